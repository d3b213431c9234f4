theorem S_X7_readStatement_0 {X : CX} {d d1 : Nat} {I R : PF} {Q Q1 : PV → PF → PF → Prop} (hs : Shp R) (e1 : d1 + 1 ≤ d) (hc : CN X d1 mX5_isWord [(2, 67), (2, 6)] I R Q1) (h : ∀ z I2 R2, Q1 (0, z) I2 R2 → PN X d mX7_readStatement 10 [(2, 110)] [(0, z)] I2 R2 Q) : PN X d mX7_readStatement 0 [(2, 110)] [] I R Q := by
  refine P_aload_n (n := 0) (q := 1) rfl rfl (by decide +kernel) ?_
  refine B_getfR (q := 4) fX7_9 kM110 (rM110_0 hs) rfl (by decide +kernel) ?_
  refine P_gets (o := 6) (q := 7) (fun _ _ h => zW (i := 5) (by decide) h) ⟨by decide, by decide⟩ gX7_97 rfl (by decide +kernel) ?_
  refine P_invV (As := [(2, 6)]) (q := 10) oX5_isWord rfl kM67 kX7_100 e1 hMF (Nat.le_of_ble_eq_true rfl) hc rfl (by decide +kernel) (fun z I2 R2 hq => ?_)
  exact (h z I2 R2 hq)
theorem S_X7_readStatement_10 {X : CX} {d : Nat} {o0 : Int} {I R : PF} {Q : PV → PF → PF → Prop} (c1 : -2147483648 ≤ o0 ∧ o0 < 2147483648) (h1 : o0 = 0 → PN X d mX7_readStatement 21 [(2, 110)] [] I R Q) (h2 : o0 ≠ 0 → PN X d mX7_readStatement 13 [(2, 110)] [] I R Q) : PN X d mX7_readStatement 10 [(2, 110)] [(0, o0)] I R Q := by
  refine B_if_eq (off := 11) (t := 21) (q := 13) c1 (by decide) rfl (by decide +kernel) ?_ ?_
  · exact fun g9 => (h1 g9)
  · exact fun g9 => (h2 g9)
theorem S_X7_readStatement_13 {X : CX} {d d1 : Nat} {I R : PF} {Q Q1 : PV → PF → PF → Prop} (e1 : d1 + 1 ≤ d) (hc : CN X d1 mX7_readLaw [(2, 110)] I R Q1) (h : ∀ z I2 R2, Q1 (0, z) I2 R2 → PN X d mX7_readStatement 17 [(2, 110)] [(0, z)] I2 R2 Q) : PN X d mX7_readStatement 13 [(2, 110)] [] I R Q := by
  refine P_aload_n (n := 0) (q := 14) rfl rfl (by decide +kernel) ?_
  refine P_invV (As := []) (q := 17) oX7_readLaw rfl kM110 kX7_103 e1 hMF (Nat.le_of_ble_eq_true rfl) hc rfl (by decide +kernel) (fun z I2 R2 hq => ?_)
  exact (h z I2 R2 hq)
theorem S_X7_readStatement_17 {X : CX} {d : Nat} {o0 : Int} {I R : PF} {Q : PV → PF → PF → Prop} (h : PN X d mX7_readStatement 208 [(2, 110), (0, o0)] [] I R Q) : PN X d mX7_readStatement 17 [(2, 110)] [(0, o0)] I R Q := by
  refine P_istore_n (n := 1) (by decide) (q := 18) rfl (by decide +kernel) ?_
  refine P_goto (off := 190) (t := 208) (by decide) (by decide +kernel) ?_
  exact h
theorem S_X7_readStatement_21 {X : CX} {d d1 : Nat} {I R : PF} {Q Q1 : PV → PF → PF → Prop} (hs : Shp R) (e1 : d1 + 1 ≤ d) (hc : CN X d1 mX5_isWord [(2, 67), (2, 7)] I R Q1) (h : ∀ z I2 R2, Q1 (0, z) I2 R2 → PN X d mX7_readStatement 31 [(2, 110)] [(0, z)] I2 R2 Q) : PN X d mX7_readStatement 21 [(2, 110)] [] I R Q := by
  refine P_aload_n (n := 0) (q := 22) rfl rfl (by decide +kernel) ?_
  refine B_getfR (q := 25) fX7_9 kM110 (rM110_0 hs) rfl (by decide +kernel) ?_
  refine P_gets (o := 7) (q := 28) (fun _ _ h => zW (i := 6) (by decide) h) ⟨by decide, by decide⟩ gX7_106 rfl (by decide +kernel) ?_
  refine P_invV (As := [(2, 7)]) (q := 31) oX5_isWord rfl kM67 kX7_100 e1 hMF (Nat.le_of_ble_eq_true rfl) hc rfl (by decide +kernel) (fun z I2 R2 hq => ?_)
  exact (h z I2 R2 hq)
theorem S_X7_readStatement_31 {X : CX} {d : Nat} {o0 : Int} {I R : PF} {Q : PV → PF → PF → Prop} (c1 : -2147483648 ≤ o0 ∧ o0 < 2147483648) (h1 : o0 = 0 → PN X d mX7_readStatement 42 [(2, 110)] [] I R Q) (h2 : o0 ≠ 0 → PN X d mX7_readStatement 34 [(2, 110)] [] I R Q) : PN X d mX7_readStatement 31 [(2, 110)] [(0, o0)] I R Q := by
  refine B_if_eq (off := 11) (t := 42) (q := 34) c1 (by decide) rfl (by decide +kernel) ?_ ?_
  · exact fun g9 => (h1 g9)
  · exact fun g9 => (h2 g9)
theorem S_X7_readStatement_34 {X : CX} {d d1 : Nat} {I R : PF} {Q Q1 : PV → PF → PF → Prop} (e1 : d1 + 1 ≤ d) (hc : CN X d1 mX7_readPerson [(2, 110)] I R Q1) (h : ∀ z I2 R2, Q1 (0, z) I2 R2 → PN X d mX7_readStatement 38 [(2, 110)] [(0, z)] I2 R2 Q) : PN X d mX7_readStatement 34 [(2, 110)] [] I R Q := by
  refine P_aload_n (n := 0) (q := 35) rfl rfl (by decide +kernel) ?_
  refine P_invV (As := []) (q := 38) oX7_readPerson rfl kM110 kX7_109 e1 hMF (Nat.le_of_ble_eq_true rfl) hc rfl (by decide +kernel) (fun z I2 R2 hq => ?_)
  exact (h z I2 R2 hq)
theorem S_X7_readStatement_38 {X : CX} {d : Nat} {o0 : Int} {I R : PF} {Q : PV → PF → PF → Prop} (h : PN X d mX7_readStatement 208 [(2, 110), (0, o0)] [] I R Q) : PN X d mX7_readStatement 38 [(2, 110)] [(0, o0)] I R Q := by
  refine P_istore_n (n := 1) (by decide) (q := 39) rfl (by decide +kernel) ?_
  refine P_goto (off := 169) (t := 208) (by decide) (by decide +kernel) ?_
  exact h
theorem S_X7_readStatement_42 {X : CX} {d d1 : Nat} {I R : PF} {Q Q1 : PV → PF → PF → Prop} (hs : Shp R) (e1 : d1 + 1 ≤ d) (hc : CN X d1 mX5_isWord [(2, 67), (2, 14)] I R Q1) (h : ∀ z I2 R2, Q1 (0, z) I2 R2 → PN X d mX7_readStatement 52 [(2, 110)] [(0, z)] I2 R2 Q) : PN X d mX7_readStatement 42 [(2, 110)] [] I R Q := by
  refine P_aload_n (n := 0) (q := 43) rfl rfl (by decide +kernel) ?_
  refine B_getfR (q := 46) fX7_9 kM110 (rM110_0 hs) rfl (by decide +kernel) ?_
  refine P_gets (o := 14) (q := 49) (fun _ _ h => zW (i := 13) (by decide) h) ⟨by decide, by decide⟩ gX7_112 rfl (by decide +kernel) ?_
  refine P_invV (As := [(2, 14)]) (q := 52) oX5_isWord rfl kM67 kX7_100 e1 hMF (Nat.le_of_ble_eq_true rfl) hc rfl (by decide +kernel) (fun z I2 R2 hq => ?_)
  exact (h z I2 R2 hq)
theorem S_X7_readStatement_52 {X : CX} {d : Nat} {o0 : Int} {I R : PF} {Q : PV → PF → PF → Prop} (c1 : -2147483648 ≤ o0 ∧ o0 < 2147483648) (h1 : o0 = 0 → PN X d mX7_readStatement 63 [(2, 110)] [] I R Q) (h2 : o0 ≠ 0 → PN X d mX7_readStatement 55 [(2, 110)] [] I R Q) : PN X d mX7_readStatement 52 [(2, 110)] [(0, o0)] I R Q := by
  refine B_if_eq (off := 11) (t := 63) (q := 55) c1 (by decide) rfl (by decide +kernel) ?_ ?_
  · exact fun g9 => (h1 g9)
  · exact fun g9 => (h2 g9)
theorem S_X7_readStatement_55 {X : CX} {d d1 : Nat} {I R : PF} {Q Q1 : PV → PF → PF → Prop} (e1 : d1 + 1 ≤ d) (hc : CN X d1 mX7_readWall [(2, 110)] I R Q1) (h : ∀ z I2 R2, Q1 (0, z) I2 R2 → PN X d mX7_readStatement 59 [(2, 110)] [(0, z)] I2 R2 Q) : PN X d mX7_readStatement 55 [(2, 110)] [] I R Q := by
  refine P_aload_n (n := 0) (q := 56) rfl rfl (by decide +kernel) ?_
  refine P_invV (As := []) (q := 59) oX7_readWall rfl kM110 kX7_115 e1 hMF (Nat.le_of_ble_eq_true rfl) hc rfl (by decide +kernel) (fun z I2 R2 hq => ?_)
  exact (h z I2 R2 hq)
theorem S_X7_readStatement_59 {X : CX} {d : Nat} {o0 : Int} {I R : PF} {Q : PV → PF → PF → Prop} (h : PN X d mX7_readStatement 208 [(2, 110), (0, o0)] [] I R Q) : PN X d mX7_readStatement 59 [(2, 110)] [(0, o0)] I R Q := by
  refine P_istore_n (n := 1) (by decide) (q := 60) rfl (by decide +kernel) ?_
  refine P_goto (off := 148) (t := 208) (by decide) (by decide +kernel) ?_
  exact h
theorem S_X7_readStatement_63 {X : CX} {d d1 : Nat} {I R : PF} {Q Q1 : PV → PF → PF → Prop} (hs : Shp R) (e1 : d1 + 1 ≤ d) (hc : CN X d1 mX5_isWord [(2, 67), (2, 15)] I R Q1) (h : ∀ z I2 R2, Q1 (0, z) I2 R2 → PN X d mX7_readStatement 73 [(2, 110)] [(0, z)] I2 R2 Q) : PN X d mX7_readStatement 63 [(2, 110)] [] I R Q := by
  refine P_aload_n (n := 0) (q := 64) rfl rfl (by decide +kernel) ?_
  refine B_getfR (q := 67) fX7_9 kM110 (rM110_0 hs) rfl (by decide +kernel) ?_
  refine P_gets (o := 15) (q := 70) (fun _ _ h => zW (i := 14) (by decide) h) ⟨by decide, by decide⟩ gX7_118 rfl (by decide +kernel) ?_
  refine P_invV (As := [(2, 15)]) (q := 73) oX5_isWord rfl kM67 kX7_100 e1 hMF (Nat.le_of_ble_eq_true rfl) hc rfl (by decide +kernel) (fun z I2 R2 hq => ?_)
  exact (h z I2 R2 hq)
theorem S_X7_readStatement_73 {X : CX} {d : Nat} {o0 : Int} {I R : PF} {Q : PV → PF → PF → Prop} (c1 : -2147483648 ≤ o0 ∧ o0 < 2147483648) (h1 : o0 = 0 → PN X d mX7_readStatement 117 [(2, 110)] [] I R Q) (h2 : o0 ≠ 0 → PN X d mX7_readStatement 76 [(2, 110)] [] I R Q) : PN X d mX7_readStatement 73 [(2, 110)] [(0, o0)] I R Q := by
  refine B_if_eq (off := 44) (t := 117) (q := 76) c1 (by decide) rfl (by decide +kernel) ?_ ?_
  · exact fun g9 => (h1 g9)
  · exact fun g9 => (h2 g9)
theorem S_X7_readStatement_76 {X : CX} {d d1 : Nat} {t1 : Int} {I R : PF} {Q Q1 : PV → PF → PF → Prop} (hs : Shp R) (r1 : R 110 2 = t1) (k1 : kd MF t1 = 6) (e1 : d1 + 1 ≤ d) (hc : CN X d1 mX7_takeOne [(2, 110), (2, (t1 + 5))] I R Q1) (h : ∀ z I2 R2, Q1 (0, z) I2 R2 → PN X d mX7_readStatement 87 [(2, 110)] [(0, z)] I2 R2 Q) : PN X d mX7_readStatement 76 [(2, 110)] [] I R Q := by
  refine P_aload_n (n := 0) (q := 77) rfl rfl (by decide +kernel) ?_
  refine P_aload_n (n := 0) (q := 78) rfl rfl (by decide +kernel) ?_
  refine B_getfR (q := 81) fX7_19 kM110 r1 rfl (by decide +kernel) ?_
  refine B_getfR (q := 84) fX7_121 k1 (sh6_12 hs k1) rfl (by decide +kernel) ?_
  refine P_invV (As := [(2, (t1 + 5))]) (q := 87) oX7_takeOne rfl kM110 kX7_125 e1 hMF (Nat.le_of_ble_eq_true rfl) hc rfl (by decide +kernel) (fun z I2 R2 hq => ?_)
  exact (h z I2 R2 hq)
theorem S_X7_readStatement_87 {X : CX} {d : Nat} {o0 : Int} {I R : PF} {Q : PV → PF → PF → Prop} (c1 : -2147483648 ≤ o0 ∧ o0 < 2147483648) (h1 : o0 = 0 → PN X d mX7_readStatement 112 [(2, 110)] [] I R Q) (h2 : o0 ≠ 0 → PN X d mX7_readStatement 90 [(2, 110)] [] I R Q) : PN X d mX7_readStatement 87 [(2, 110)] [(0, o0)] I R Q := by
  refine B_if_eq (off := 25) (t := 112) (q := 90) c1 (by decide) rfl (by decide +kernel) ?_ ?_
  · exact fun g9 => (h1 g9)
  · exact fun g9 => (h2 g9)
theorem S_X7_readStatement_90 {X : CX} {d d1 : Nat} {t1 : Int} {I R : PF} {Q Q1 : PV → PF → PF → Prop} (hs : Shp R) (r1 : R 110 2 = t1) (k1 : kd MF t1 = 6) (e1 : d1 + 1 ≤ d) (hc : CN X d1 mX3_readSum [(2, 71), (2, (t1 + 5)), (0, 1)] I R Q1) (h : ∀ z I2 R2, Q1 (0, z) I2 R2 → PN X d mX7_readStatement 105 [(2, 110)] [(0, z)] I2 R2 Q) : PN X d mX7_readStatement 90 [(2, 110)] [] I R Q := by
  refine P_aload_n (n := 0) (q := 91) rfl rfl (by decide +kernel) ?_
  refine B_getfR (q := 94) fX7_15 kM110 (rM110_1 hs) rfl (by decide +kernel) ?_
  refine P_aload_n (n := 0) (q := 95) rfl rfl (by decide +kernel) ?_
  refine B_getfR (q := 98) fX7_19 kM110 r1 rfl (by decide +kernel) ?_
  refine B_getfR (q := 101) fX7_121 k1 (sh6_12 hs k1) rfl (by decide +kernel) ?_
  refine P_iconst (n := 1) (q := 102) rfl (by decide +kernel) ?_
  refine P_invV (As := [(2, (t1 + 5)), (0, 1)]) (q := 105) oX3_readSum rfl kM71 kX7_129 e1 hMF (Nat.le_of_ble_eq_true rfl) hc rfl (by decide +kernel) (fun z I2 R2 hq => ?_)
  exact (h z I2 R2 hq)
theorem S_X7_readStatement_105 {X : CX} {d : Nat} {o0 : Int} {I R : PF} {Q : PV → PF → PF → Prop} (c1 : -2147483648 ≤ o0 ∧ o0 < 2147483648) (h1 : o0 = 0 → PN X d mX7_readStatement 112 [(2, 110)] [] I R Q) (h2 : o0 ≠ 0 → PN X d mX7_readStatement 108 [(2, 110)] [] I R Q) : PN X d mX7_readStatement 105 [(2, 110)] [(0, o0)] I R Q := by
  refine B_if_eq (off := 7) (t := 112) (q := 108) c1 (by decide) rfl (by decide +kernel) ?_ ?_
  · exact fun g9 => (h1 g9)
  · exact fun g9 => (h2 g9)
theorem S_X7_readStatement_108 {X : CX} {d : Nat} {I R : PF} {Q : PV → PF → PF → Prop} (h : PN X d mX7_readStatement 113 [(2, 110)] [(0, 1)] I R Q) : PN X d mX7_readStatement 108 [(2, 110)] [] I R Q := by
  refine P_iconst (n := 1) (q := 109) rfl (by decide +kernel) ?_
  refine P_goto (off := 4) (t := 113) (by decide) (by decide +kernel) ?_
  exact h
theorem S_X7_readStatement_112 {X : CX} {d : Nat} {I R : PF} {Q : PV → PF → PF → Prop} (h : PN X d mX7_readStatement 113 [(2, 110)] [(0, 0)] I R Q) : PN X d mX7_readStatement 112 [(2, 110)] [] I R Q := by
  refine P_iconst (n := 0) (q := 113) rfl (by decide +kernel) ?_
  exact h
theorem S_X7_readStatement_113 {X : CX} {d : Nat} {o0 : Int} {I R : PF} {Q : PV → PF → PF → Prop} (h : PN X d mX7_readStatement 208 [(2, 110), (0, o0)] [] I R Q) : PN X d mX7_readStatement 113 [(2, 110)] [(0, o0)] I R Q := by
  refine P_istore_n (n := 1) (by decide) (q := 114) rfl (by decide +kernel) ?_
  refine P_goto (off := 94) (t := 208) (by decide) (by decide +kernel) ?_
  exact h
theorem S_X7_readStatement_117 {X : CX} {d d1 : Nat} {I R : PF} {Q Q1 : PV → PF → PF → Prop} (hs : Shp R) (e1 : d1 + 1 ≤ d) (hc : CN X d1 mX5_isWord [(2, 67), (2, 16)] I R Q1) (h : ∀ z I2 R2, Q1 (0, z) I2 R2 → PN X d mX7_readStatement 127 [(2, 110)] [(0, z)] I2 R2 Q) : PN X d mX7_readStatement 117 [(2, 110)] [] I R Q := by
  refine P_aload_n (n := 0) (q := 118) rfl rfl (by decide +kernel) ?_
  refine B_getfR (q := 121) fX7_9 kM110 (rM110_0 hs) rfl (by decide +kernel) ?_
  refine P_gets (o := 16) (q := 124) (fun _ _ h => zW (i := 15) (by decide) h) ⟨by decide, by decide⟩ gX7_135 rfl (by decide +kernel) ?_
  refine P_invV (As := [(2, 16)]) (q := 127) oX5_isWord rfl kM67 kX7_100 e1 hMF (Nat.le_of_ble_eq_true rfl) hc rfl (by decide +kernel) (fun z I2 R2 hq => ?_)
  exact (h z I2 R2 hq)
theorem S_X7_readStatement_127 {X : CX} {d : Nat} {o0 : Int} {I R : PF} {Q : PV → PF → PF → Prop} (c1 : -2147483648 ≤ o0 ∧ o0 < 2147483648) (h1 : o0 = 0 → PN X d mX7_readStatement 171 [(2, 110)] [] I R Q) (h2 : o0 ≠ 0 → PN X d mX7_readStatement 130 [(2, 110)] [] I R Q) : PN X d mX7_readStatement 127 [(2, 110)] [(0, o0)] I R Q := by
  refine B_if_eq (off := 44) (t := 171) (q := 130) c1 (by decide) rfl (by decide +kernel) ?_ ?_
  · exact fun g9 => (h1 g9)
  · exact fun g9 => (h2 g9)
theorem S_X7_readStatement_130 {X : CX} {d d1 : Nat} {t1 : Int} {I R : PF} {Q Q1 : PV → PF → PF → Prop} (hs : Shp R) (r1 : R 110 2 = t1) (k1 : kd MF t1 = 6) (e1 : d1 + 1 ≤ d) (hc : CN X d1 mX7_takeOne [(2, 110), (2, (t1 + 8))] I R Q1) (h : ∀ z I2 R2, Q1 (0, z) I2 R2 → PN X d mX7_readStatement 141 [(2, 110)] [(0, z)] I2 R2 Q) : PN X d mX7_readStatement 130 [(2, 110)] [] I R Q := by
  refine P_aload_n (n := 0) (q := 131) rfl rfl (by decide +kernel) ?_
  refine P_aload_n (n := 0) (q := 132) rfl rfl (by decide +kernel) ?_
  refine B_getfR (q := 135) fX7_19 kM110 r1 rfl (by decide +kernel) ?_
  refine B_getfR (q := 138) fX7_138 k1 (sh6_13 hs k1) rfl (by decide +kernel) ?_
  refine P_invV (As := [(2, (t1 + 8))]) (q := 141) oX7_takeOne rfl kM110 kX7_125 e1 hMF (Nat.le_of_ble_eq_true rfl) hc rfl (by decide +kernel) (fun z I2 R2 hq => ?_)
  exact (h z I2 R2 hq)
theorem S_X7_readStatement_141 {X : CX} {d : Nat} {o0 : Int} {I R : PF} {Q : PV → PF → PF → Prop} (c1 : -2147483648 ≤ o0 ∧ o0 < 2147483648) (h1 : o0 = 0 → PN X d mX7_readStatement 166 [(2, 110)] [] I R Q) (h2 : o0 ≠ 0 → PN X d mX7_readStatement 144 [(2, 110)] [] I R Q) : PN X d mX7_readStatement 141 [(2, 110)] [(0, o0)] I R Q := by
  refine B_if_eq (off := 25) (t := 166) (q := 144) c1 (by decide) rfl (by decide +kernel) ?_ ?_
  · exact fun g9 => (h1 g9)
  · exact fun g9 => (h2 g9)
theorem S_X7_readStatement_144 {X : CX} {d d1 : Nat} {t1 : Int} {I R : PF} {Q Q1 : PV → PF → PF → Prop} (hs : Shp R) (r1 : R 110 2 = t1) (k1 : kd MF t1 = 6) (e1 : d1 + 1 ≤ d) (hc : CN X d1 mX3_readTest [(2, 71), (2, (t1 + 8)), (0, 2)] I R Q1) (h : ∀ z I2 R2, Q1 (0, z) I2 R2 → PN X d mX7_readStatement 159 [(2, 110)] [(0, z)] I2 R2 Q) : PN X d mX7_readStatement 144 [(2, 110)] [] I R Q := by
  refine P_aload_n (n := 0) (q := 145) rfl rfl (by decide +kernel) ?_
  refine B_getfR (q := 148) fX7_15 kM110 (rM110_1 hs) rfl (by decide +kernel) ?_
  refine P_aload_n (n := 0) (q := 149) rfl rfl (by decide +kernel) ?_
  refine B_getfR (q := 152) fX7_19 kM110 r1 rfl (by decide +kernel) ?_
  refine B_getfR (q := 155) fX7_138 k1 (sh6_13 hs k1) rfl (by decide +kernel) ?_
  refine P_iconst (n := 2) (q := 156) rfl (by decide +kernel) ?_
  refine P_invV (As := [(2, (t1 + 8)), (0, 2)]) (q := 159) oX3_readTest rfl kM71 kX7_141 e1 hMF (Nat.le_of_ble_eq_true rfl) hc rfl (by decide +kernel) (fun z I2 R2 hq => ?_)
  exact (h z I2 R2 hq)
theorem S_X7_readStatement_159 {X : CX} {d : Nat} {o0 : Int} {I R : PF} {Q : PV → PF → PF → Prop} (c1 : -2147483648 ≤ o0 ∧ o0 < 2147483648) (h1 : o0 = 0 → PN X d mX7_readStatement 166 [(2, 110)] [] I R Q) (h2 : o0 ≠ 0 → PN X d mX7_readStatement 162 [(2, 110)] [] I R Q) : PN X d mX7_readStatement 159 [(2, 110)] [(0, o0)] I R Q := by
  refine B_if_eq (off := 7) (t := 166) (q := 162) c1 (by decide) rfl (by decide +kernel) ?_ ?_
  · exact fun g9 => (h1 g9)
  · exact fun g9 => (h2 g9)
theorem S_X7_readStatement_162 {X : CX} {d : Nat} {I R : PF} {Q : PV → PF → PF → Prop} (h : PN X d mX7_readStatement 167 [(2, 110)] [(0, 1)] I R Q) : PN X d mX7_readStatement 162 [(2, 110)] [] I R Q := by
  refine P_iconst (n := 1) (q := 163) rfl (by decide +kernel) ?_
  refine P_goto (off := 4) (t := 167) (by decide) (by decide +kernel) ?_
  exact h
theorem S_X7_readStatement_166 {X : CX} {d : Nat} {I R : PF} {Q : PV → PF → PF → Prop} (h : PN X d mX7_readStatement 167 [(2, 110)] [(0, 0)] I R Q) : PN X d mX7_readStatement 166 [(2, 110)] [] I R Q := by
  refine P_iconst (n := 0) (q := 167) rfl (by decide +kernel) ?_
  exact h
theorem S_X7_readStatement_167 {X : CX} {d : Nat} {o0 : Int} {I R : PF} {Q : PV → PF → PF → Prop} (h : PN X d mX7_readStatement 208 [(2, 110), (0, o0)] [] I R Q) : PN X d mX7_readStatement 167 [(2, 110)] [(0, o0)] I R Q := by
  refine P_istore_n (n := 1) (by decide) (q := 168) rfl (by decide +kernel) ?_
  refine P_goto (off := 40) (t := 208) (by decide) (by decide +kernel) ?_
  exact h
theorem S_X7_readStatement_171 {X : CX} {d d1 : Nat} {I R : PF} {Q Q1 : PV → PF → PF → Prop} (hs : Shp R) (e1 : d1 + 1 ≤ d) (hc : CN X d1 mX5_isWord [(2, 67), (2, 17)] I R Q1) (h : ∀ z I2 R2, Q1 (0, z) I2 R2 → PN X d mX7_readStatement 181 [(2, 110)] [(0, z)] I2 R2 Q) : PN X d mX7_readStatement 171 [(2, 110)] [] I R Q := by
  refine P_aload_n (n := 0) (q := 172) rfl rfl (by decide +kernel) ?_
  refine B_getfR (q := 175) fX7_9 kM110 (rM110_0 hs) rfl (by decide +kernel) ?_
  refine P_gets (o := 17) (q := 178) (fun _ _ h => zW (i := 16) (by decide) h) ⟨by decide, by decide⟩ gX7_144 rfl (by decide +kernel) ?_
  refine P_invV (As := [(2, 17)]) (q := 181) oX5_isWord rfl kM67 kX7_100 e1 hMF (Nat.le_of_ble_eq_true rfl) hc rfl (by decide +kernel) (fun z I2 R2 hq => ?_)
  exact (h z I2 R2 hq)
theorem S_X7_readStatement_181 {X : CX} {d : Nat} {o0 : Int} {I R : PF} {Q : PV → PF → PF → Prop} (c1 : -2147483648 ≤ o0 ∧ o0 < 2147483648) (h1 : o0 = 0 → PN X d mX7_readStatement 192 [(2, 110)] [] I R Q) (h2 : o0 ≠ 0 → PN X d mX7_readStatement 184 [(2, 110)] [] I R Q) : PN X d mX7_readStatement 181 [(2, 110)] [(0, o0)] I R Q := by
  refine B_if_eq (off := 11) (t := 192) (q := 184) c1 (by decide) rfl (by decide +kernel) ?_ ?_
  · exact fun g9 => (h1 g9)
  · exact fun g9 => (h2 g9)
theorem S_X7_readStatement_184 {X : CX} {d d1 : Nat} {I R : PF} {Q Q1 : PV → PF → PF → Prop} (e1 : d1 + 1 ≤ d) (hc : CN X d1 mX7_readGust [(2, 110)] I R Q1) (h : ∀ z I2 R2, Q1 (0, z) I2 R2 → PN X d mX7_readStatement 188 [(2, 110)] [(0, z)] I2 R2 Q) : PN X d mX7_readStatement 184 [(2, 110)] [] I R Q := by
  refine P_aload_n (n := 0) (q := 185) rfl rfl (by decide +kernel) ?_
  refine P_invV (As := []) (q := 188) oX7_readGust rfl kM110 kX7_147 e1 hMF (Nat.le_of_ble_eq_true rfl) hc rfl (by decide +kernel) (fun z I2 R2 hq => ?_)
  exact (h z I2 R2 hq)
theorem S_X7_readStatement_188 {X : CX} {d : Nat} {o0 : Int} {I R : PF} {Q : PV → PF → PF → Prop} (h : PN X d mX7_readStatement 208 [(2, 110), (0, o0)] [] I R Q) : PN X d mX7_readStatement 188 [(2, 110)] [(0, o0)] I R Q := by
  refine P_istore_n (n := 1) (by decide) (q := 189) rfl (by decide +kernel) ?_
  refine P_goto (off := 19) (t := 208) (by decide) (by decide +kernel) ?_
  exact h
theorem S_X7_readStatement_192 {X : CX} {d d1 : Nat} {I R : PF} {Q Q1 : PV → PF → PF → Prop} (hs : Shp R) (e1 : d1 + 1 ≤ d) (hc : CN X d1 mX5_refuse [(2, 67), (0, 1), (0, (I 67 3))] I R Q1) (h : ∀ z I2 R2, Q1 (0, z) I2 R2 → PN X d mX7_readStatement 207 [(2, 110)] [(0, z)] I2 R2 Q) : PN X d mX7_readStatement 192 [(2, 110)] [] I R Q := by
  refine P_aload_n (n := 0) (q := 193) rfl rfl (by decide +kernel) ?_
  refine B_getfR (q := 196) fX7_9 kM110 (rM110_0 hs) rfl (by decide +kernel) ?_
  refine P_iconst (n := 1) (q := 197) rfl (by decide +kernel) ?_
  refine P_aload_n (n := 0) (q := 198) rfl rfl (by decide +kernel) ?_
  refine B_getfR (q := 201) fX7_9 kM110 (rM110_0 hs) rfl (by decide +kernel) ?_
  refine P_getf (q := 204) fX7_44 kM67 rfl (by decide +kernel) ?_
  refine P_invV (As := [(0, 1), (0, (I 67 3))]) (q := 207) oX5_refuse rfl kM67 kX7_48 e1 hMF (Nat.le_of_ble_eq_true rfl) hc rfl (by decide +kernel) (fun z I2 R2 hq => ?_)
  exact (h z I2 R2 hq)
theorem S_X7_readStatement_207 {X : CX} {d : Nat} {o0 : Int} {I R : PF} {Q : PV → PF → PF → Prop} (h : PN X d mX7_readStatement 208 [(2, 110), (0, o0)] [] I R Q) : PN X d mX7_readStatement 207 [(2, 110)] [(0, o0)] I R Q := by
  refine P_istore_n (n := 1) (by decide) (q := 208) rfl (by decide +kernel) ?_
  exact h
theorem S_X7_readStatement_208 {X : CX} {d : Nat} {x1 : Int} {I R : PF} {Q : PV → PF → PF → Prop} (c1 : -2147483648 ≤ x1 ∧ x1 < 2147483648) (h1 : x1 = 0 → PN X d mX7_readStatement 228 [] [] I R Q) (h2 : x1 ≠ 0 → PN X d mX7_readStatement 212 [(2, 110)] [] I R Q) : PN X d mX7_readStatement 208 [(2, 110), (0, x1)] [] I R Q := by
  refine P_iload_n (n := 1) (q := 209) rfl rfl (by decide +kernel) ?_
  refine B_if_eq (off := 19) (t := 228) (q := 212) c1 (by decide) rfl (by decide +kernel) ?_ ?_
  · exact fun g9 => (PW_sub (ls' := []) trivial (h1 g9))
  · exact fun g9 => (PW_sub (ls' := [(2, 110)]) ⟨Or.inr rfl, trivial⟩ (h2 g9))
theorem S_X7_readStatement_212 {X : CX} {d d1 : Nat} {I R : PF} {Q Q1 : PV → PF → PF → Prop} (hs : Shp R) (e1 : d1 + 1 ≤ d) (hc : CN X d1 mX5_takeSign [(2, 67), (0, 59)] I R Q1) (h : ∀ z I2 R2, Q1 (0, z) I2 R2 → PN X d mX7_readStatement 221 [] [(0, z)] I2 R2 Q) : PN X d mX7_readStatement 212 [(2, 110)] [] I R Q := by
  refine P_aload_n (n := 0) (q := 213) rfl rfl (by decide +kernel) ?_
  refine B_getfR (q := 216) fX7_9 kM110 (rM110_0 hs) rfl (by decide +kernel) ?_
  refine P_bipush (n := 59) (q := 218) rfl rfl (by decide +kernel) ?_
  refine P_invV (As := [(0, 59)]) (q := 221) oX5_takeSign rfl kM67 kX7_93 e1 hMF (Nat.le_of_ble_eq_true rfl) hc rfl (by decide +kernel) (fun z I2 R2 hq => ?_)
  exact (PW_sub (ls' := []) trivial (h z I2 R2 hq))
theorem S_X7_readStatement_221 {X : CX} {d : Nat} {o0 : Int} {I R : PF} {Q : PV → PF → PF → Prop} (c1 : -2147483648 ≤ o0 ∧ o0 < 2147483648) (h1 : o0 = 0 → PN X d mX7_readStatement 228 [] [] I R Q) (h2 : o0 ≠ 0 → PN X d mX7_readStatement 224 [] [] I R Q) : PN X d mX7_readStatement 221 [] [(0, o0)] I R Q := by
  refine B_if_eq (off := 7) (t := 228) (q := 224) c1 (by decide) rfl (by decide +kernel) ?_ ?_
  · exact fun g9 => (PW_sub (ls' := []) trivial (h1 g9))
  · exact fun g9 => (PW_sub (ls' := []) trivial (h2 g9))
theorem S_X7_readStatement_224 {X : CX} {d : Nat} {I R : PF} {Q : PV → PF → PF → Prop} (h : PN X d mX7_readStatement 229 [] [(0, 1)] I R Q) : PN X d mX7_readStatement 224 [] [] I R Q := by
  refine P_iconst (n := 1) (q := 225) rfl (by decide +kernel) ?_
  refine P_goto (off := 4) (t := 229) (by decide) (by decide +kernel) ?_
  exact (PW_sub (ls' := []) trivial h)
theorem S_X7_readStatement_228 {X : CX} {d : Nat} {I R : PF} {Q : PV → PF → PF → Prop} (h : PN X d mX7_readStatement 229 [] [(0, 0)] I R Q) : PN X d mX7_readStatement 228 [] [] I R Q := by
  refine P_iconst (n := 0) (q := 229) rfl (by decide +kernel) ?_
  exact (PW_sub (ls' := []) trivial h)
theorem S_X7_readStatement_229 {X : CX} {d : Nat} {o0 : Int} {I R : PF} {Q : PV → PF → PF → Prop} (z1 : o0 = 0 ∨ o0 = 1) (h : Q (0, o0) I R) : PN X d mX7_readStatement 229 [] [(0, o0)] I R Q := by
  refine P_zret rfl z1 (by decide +kernel) h
theorem S_X7_readThrow_0 {X : CX} {d d1 : Nat} {a1 t1 : Int} {I R : PF} {Q Q1 : PV → PF → PF → Prop} (hs : Shp R) (k1 : kd MF a1 = 12) (b1 : (0 : Int) ≤ 5 ∧ 5 < (ln MF a1 : Int)) (n1 : (ln MF a1 : Int) < 2147483648) (b2 : (0 : Int) ≤ 6 ∧ 6 < (ln MF a1 : Int)) (r1 : R 110 2 = t1) (k2 : kd MF t1 = 6) (e1 : d1 + 1 ≤ d) (hc : CN X d1 mX5_isWord [(2, 67), (2, 12)] (u2 (u2 (u2 I a1 5 0) a1 6 0) (t1 + 11) 3 (((u2 (u2 I a1 5 0) a1 6 0) (t1 + 11) 3) + 1)) R Q1) (h : ∀ z I2 R2, Q1 (0, z) I2 R2 → PN X d mX7_readThrow 35 [(2, 110), (2, a1)] [(0, z)] I2 R2 Q) : PN X d mX7_readThrow 0 [(2, 110), (2, a1)] [] I R Q := by
  refine P_aload_n (n := 1) (q := 1) rfl rfl (by decide +kernel) ?_
  refine P_iconst (n := 5) (q := 2) rfl (by decide +kernel) ?_
  refine P_iconst (n := 0) (q := 3) rfl (by decide +kernel) ?_
  refine B_iastore (q := 4) k1 rfl n1 b1 rfl (by decide +kernel) ?_
  refine P_aload_n (n := 1) (q := 5) rfl rfl (by decide +kernel) ?_
  refine P_bipush (n := 6) (q := 7) rfl rfl (by decide +kernel) ?_
  refine P_iconst (n := 0) (q := 8) rfl (by decide +kernel) ?_
  refine B_iastore (q := 9) k1 rfl n1 b2 rfl (by decide +kernel) ?_
  refine P_aload_n (n := 0) (q := 10) rfl rfl (by decide +kernel) ?_
  refine B_getfR (q := 13) fX7_19 kM110 r1 rfl (by decide +kernel) ?_
  refine B_getfR (q := 16) fX7_181 k2 (sh6_14 hs k2) rfl (by decide +kernel) ?_
  refine P_dup (q := 17) (Nat.ne_of_beq_eq_false rfl) rfl (by decide +kernel) ?_
  refine P_getf (q := 20) fX7_184 (sq11 k2) rfl (by decide +kernel) ?_
  refine P_iconst (n := 1) (q := 21) rfl (by decide +kernel) ?_
  refine P_iadd (q := 22) rfl (by decide +kernel) ?_
  refine P_putI (q := 25) wX7_184 (fun h => by cases h) (sq11 k2) rfl (by decide +kernel) ?_
  refine P_aload_n (n := 0) (q := 26) rfl rfl (by decide +kernel) ?_
  refine B_getfR (q := 29) fX7_9 kM110 (rM110_0 hs) rfl (by decide +kernel) ?_
  refine P_gets (o := 12) (q := 32) (fun _ _ h => zW (i := 11) (by decide) h) ⟨by decide, by decide⟩ gX7_219 rfl (by decide +kernel) ?_
  refine P_invV (As := [(2, 12)]) (q := 35) oX5_isWord rfl kM67 kX7_100 e1 hMF (Nat.le_of_ble_eq_true rfl) hc rfl (by decide +kernel) (fun z I2 R2 hq => ?_)
  exact (h z I2 R2 hq)
theorem S_X7_readThrow_35 {X : CX} {d : Nat} {a1 o0 : Int} {I R : PF} {Q : PV → PF → PF → Prop} (c1 : -2147483648 ≤ o0 ∧ o0 < 2147483648) (h1 : o0 ≠ 0 → PN X d mX7_readThrow 40 [(2, 110), (2, a1)] [] I R Q) (h2 : o0 = 0 → PN X d mX7_readThrow 38 [] [] I R Q) : PN X d mX7_readThrow 35 [(2, 110), (2, a1)] [(0, o0)] I R Q := by
  refine B_if_ne (off := 5) (t := 40) (q := 38) c1 (by decide) rfl (by decide +kernel) ?_ ?_
  · exact fun g9 => (h1 g9)
  · exact fun g9 => (PW_sub (ls' := []) trivial (h2 g9))
theorem S_X7_readThrow_38 {X : CX} {d : Nat} {I R : PF} {Q : PV → PF → PF → Prop} (h : Q (0, 1) I R) : PN X d mX7_readThrow 38 [] [] I R Q := by
  refine P_iconst (n := 1) (q := 39) rfl (by decide +kernel) ?_
  refine P_zret rfl (Or.inr rfl) (by decide +kernel) h
theorem S_X7_readThrow_40 {X : CX} {d d1 : Nat} {a1 : Int} {I R : PF} {Q Q1 : PV → PF → PF → Prop} (hs : Shp R) (e1 : d1 + 1 ≤ d) (hc : CN X d1 mX5_advance [(2, 67)] I R Q1) (h : ∀ z I2 R2, Q1 (9, z) I2 R2 → PN X d mX7_readThrow 47 [(2, 110), (2, a1)] [] I2 R2 Q) : PN X d mX7_readThrow 40 [(2, 110), (2, a1)] [] I R Q := by
  refine P_aload_n (n := 0) (q := 41) rfl rfl (by decide +kernel) ?_
  refine B_getfR (q := 44) fX7_9 kM110 (rM110_0 hs) rfl (by decide +kernel) ?_
  refine P_invV (As := []) (q := 47) oX5_advance rfl kM67 kX7_150 e1 hMF (Nat.le_of_ble_eq_true rfl) hc rfl (by decide +kernel) (fun z I2 R2 hq => ?_)
  exact (h z I2 R2 hq)
theorem S_X7_readThrow_47 {X : CX} {d d1 : Nat} {a1 : Int} {I R : PF} {Q Q1 : PV → PF → PF → Prop} (hs : Shp R) (e1 : d1 + 1 ≤ d) (hc : CN X d1 mX5_takeNumber [(2, 67), (0, 0), (0, 8)] I R Q1) (h : ∀ z I2 R2, Q1 (0, z) I2 R2 → PN X d mX7_readThrow 59 [(2, 110), (2, a1)] [(0, z), (0, 5), (2, a1)] I2 R2 Q) : PN X d mX7_readThrow 47 [(2, 110), (2, a1)] [] I R Q := by
  refine P_aload_n (n := 1) (q := 48) rfl rfl (by decide +kernel) ?_
  refine P_iconst (n := 5) (q := 49) rfl (by decide +kernel) ?_
  refine P_aload_n (n := 0) (q := 50) rfl rfl (by decide +kernel) ?_
  refine B_getfR (q := 53) fX7_9 kM110 (rM110_0 hs) rfl (by decide +kernel) ?_
  refine P_iconst (n := 0) (q := 54) rfl (by decide +kernel) ?_
  refine P_bipush (n := 8) (q := 56) rfl rfl (by decide +kernel) ?_
  refine P_invV (As := [(0, 0), (0, 8)]) (q := 59) oX5_takeNumber rfl kM67 kX7_65 e1 hMF (Nat.le_of_ble_eq_true rfl) hc rfl (by decide +kernel) (fun z I2 R2 hq => ?_)
  exact (h z I2 R2 hq)
theorem S_X7_readThrow_59 {X : CX} {d : Nat} {a1 s0 o1 o2 : Int} {I R : PF} {Q : PV → PF → PF → Prop} (k1 : kd MF s0 = 12) (b1 : (0 : Int) ≤ o1 ∧ o1 < (ln MF s0 : Int)) (n1 : (ln MF s0 : Int) < 2147483648) (k2 : kd MF a1 = 12) (b2 : (0 : Int) ≤ 5 ∧ 5 < (ln MF a1 : Int)) (n2 : (ln MF a1 : Int) < 2147483648) (c1 : -2147483648 ≤ ((u2 I s0 o1 o2) a1 5) ∧ ((u2 I s0 o1 o2) a1 5) < 2147483648) (h1 : ((u2 I s0 o1 o2) a1 5) = (-1) → PN X d mX7_readThrow 80 [] [] (u2 I s0 o1 o2) R Q) (h2 : ((u2 I s0 o1 o2) a1 5) ≠ (-1) → PN X d mX7_readThrow 67 [(2, 110), (2, a1)] [] (u2 I s0 o1 o2) R Q) : PN X d mX7_readThrow 59 [(2, 110), (2, a1)] [(0, o2), (0, o1), (2, s0)] I R Q := by
  refine B_iastore (q := 60) k1 rfl n1 b1 rfl (by decide +kernel) ?_
  refine P_aload_n (n := 1) (q := 61) rfl rfl (by decide +kernel) ?_
  refine P_iconst (n := 5) (q := 62) rfl (by decide +kernel) ?_
  refine B_iaload (q := 63) k2 rfl n2 b2 rfl (by decide +kernel) ?_
  refine P_iconst (n := (-1)) (q := 64) rfl (by decide +kernel) ?_
  refine B_icmp_eq (off := 16) (t := 80) (q := 67) c1 ⟨by decide, by decide⟩ (by decide) rfl (by decide +kernel) ?_ ?_
  · exact fun g9 => (PW_sub (ls' := []) trivial (h1 g9))
  · exact fun g9 => (h2 g9)
theorem S_X7_readThrow_67 {X : CX} {d d1 : Nat} {a1 : Int} {I R : PF} {Q Q1 : PV → PF → PF → Prop} (hs : Shp R) (e1 : d1 + 1 ≤ d) (hc : CN X d1 mX5_takeWord [(2, 67), (2, 13)] I R Q1) (h : ∀ z I2 R2, Q1 (0, z) I2 R2 → PN X d mX7_readThrow 77 [(2, 110), (2, a1)] [(0, z)] I2 R2 Q) : PN X d mX7_readThrow 67 [(2, 110), (2, a1)] [] I R Q := by
  refine P_aload_n (n := 0) (q := 68) rfl rfl (by decide +kernel) ?_
  refine B_getfR (q := 71) fX7_9 kM110 (rM110_0 hs) rfl (by decide +kernel) ?_
  refine P_gets (o := 13) (q := 74) (fun _ _ h => zW (i := 12) (by decide) h) ⟨by decide, by decide⟩ gX7_222 rfl (by decide +kernel) ?_
  refine P_invV (As := [(2, 13)]) (q := 77) oX5_takeWord rfl kM67 kX7_61 e1 hMF (Nat.le_of_ble_eq_true rfl) hc rfl (by decide +kernel) (fun z I2 R2 hq => ?_)
  exact (h z I2 R2 hq)
theorem S_X7_readThrow_77 {X : CX} {d : Nat} {a1 o0 : Int} {I R : PF} {Q : PV → PF → PF → Prop} (c1 : -2147483648 ≤ o0 ∧ o0 < 2147483648) (h1 : o0 ≠ 0 → PN X d mX7_readThrow 82 [(2, 110), (2, a1)] [] I R Q) (h2 : o0 = 0 → PN X d mX7_readThrow 80 [] [] I R Q) : PN X d mX7_readThrow 77 [(2, 110), (2, a1)] [(0, o0)] I R Q := by
  refine B_if_ne (off := 5) (t := 82) (q := 80) c1 (by decide) rfl (by decide +kernel) ?_ ?_
  · exact fun g9 => (h1 g9)
  · exact fun g9 => (PW_sub (ls' := []) trivial (h2 g9))
theorem S_X7_readThrow_80 {X : CX} {d : Nat} {I R : PF} {Q : PV → PF → PF → Prop} (h : Q (0, 0) I R) : PN X d mX7_readThrow 80 [] [] I R Q := by
  refine P_iconst (n := 0) (q := 81) rfl (by decide +kernel) ?_
  refine P_zret rfl (Or.inl rfl) (by decide +kernel) h
theorem S_X7_readThrow_82 {X : CX} {d d1 : Nat} {a1 : Int} {I R : PF} {Q Q1 : PV → PF → PF → Prop} (hs : Shp R) (e1 : d1 + 1 ≤ d) (hc : CN X d1 mX5_takeNumber [(2, 67), (0, 0), (0, 3)] I R Q1) (h : ∀ z I2 R2, Q1 (0, z) I2 R2 → PN X d mX7_readThrow 94 [(9, 0), (2, a1)] [(0, z), (0, 6), (2, a1)] I2 R2 Q) : PN X d mX7_readThrow 82 [(2, 110), (2, a1)] [] I R Q := by
  refine P_aload_n (n := 1) (q := 83) rfl rfl (by decide +kernel) ?_
  refine P_bipush (n := 6) (q := 85) rfl rfl (by decide +kernel) ?_
  refine P_aload_n (n := 0) (q := 86) rfl rfl (by decide +kernel) ?_
  refine B_getfR (q := 89) fX7_9 kM110 (rM110_0 hs) rfl (by decide +kernel) ?_
  refine P_iconst (n := 0) (q := 90) rfl (by decide +kernel) ?_
  refine P_iconst (n := 3) (q := 91) rfl (by decide +kernel) ?_
  refine P_invV (As := [(0, 0), (0, 3)]) (q := 94) oX5_takeNumber rfl kM67 kX7_65 e1 hMF (Nat.le_of_ble_eq_true rfl) hc rfl (by decide +kernel) (fun z I2 R2 hq => ?_)
  exact (PW_sub (ls' := [(9, 0), (2, a1)]) ⟨Or.inl rfl, Or.inr rfl, trivial⟩ (h z I2 R2 hq))
theorem S_X7_readThrow_94 {X : CX} {d : Nat} {a1 s0 o1 o2 : Int} {I R : PF} {Q : PV → PF → PF → Prop} (k1 : kd MF s0 = 12) (b1 : (0 : Int) ≤ o1 ∧ o1 < (ln MF s0 : Int)) (n1 : (ln MF s0 : Int) < 2147483648) (k2 : kd MF a1 = 12) (b2 : (0 : Int) ≤ 6 ∧ 6 < (ln MF a1 : Int)) (n2 : (ln MF a1 : Int) < 2147483648) (c1 : -2147483648 ≤ ((u2 I s0 o1 o2) a1 6) ∧ ((u2 I s0 o1 o2) a1 6) < 2147483648) (h1 : ((u2 I s0 o1 o2) a1 6) = (-1) → PN X d mX7_readThrow 107 [] [] (u2 I s0 o1 o2) R Q) (h2 : ((u2 I s0 o1 o2) a1 6) ≠ (-1) → PN X d mX7_readThrow 103 [] [] (u2 I s0 o1 o2) R Q) : PN X d mX7_readThrow 94 [(9, 0), (2, a1)] [(0, o2), (0, o1), (2, s0)] I R Q := by
  refine B_iastore (q := 95) k1 rfl n1 b1 rfl (by decide +kernel) ?_
  refine P_aload_n (n := 1) (q := 96) rfl rfl (by decide +kernel) ?_
  refine P_bipush (n := 6) (q := 98) rfl rfl (by decide +kernel) ?_
  refine B_iaload (q := 99) k2 rfl n2 b2 rfl (by decide +kernel) ?_
  refine P_iconst (n := (-1)) (q := 100) rfl (by decide +kernel) ?_
  refine B_icmp_eq (off := 7) (t := 107) (q := 103) c1 ⟨by decide, by decide⟩ (by decide) rfl (by decide +kernel) ?_ ?_
  · exact fun g9 => (PW_sub (ls' := []) trivial (h1 g9))
  · exact fun g9 => (PW_sub (ls' := []) trivial (h2 g9))
theorem S_X7_readThrow_103 {X : CX} {d : Nat} {I R : PF} {Q : PV → PF → PF → Prop} (h : PN X d mX7_readThrow 108 [] [(0, 1)] I R Q) : PN X d mX7_readThrow 103 [] [] I R Q := by
  refine P_iconst (n := 1) (q := 104) rfl (by decide +kernel) ?_
  refine P_goto (off := 4) (t := 108) (by decide) (by decide +kernel) ?_
  exact (PW_sub (ls' := []) trivial h)
theorem S_X7_readThrow_107 {X : CX} {d : Nat} {I R : PF} {Q : PV → PF → PF → Prop} (h : PN X d mX7_readThrow 108 [] [(0, 0)] I R Q) : PN X d mX7_readThrow 107 [] [] I R Q := by
  refine P_iconst (n := 0) (q := 108) rfl (by decide +kernel) ?_
  exact (PW_sub (ls' := []) trivial h)
theorem S_X7_readThrow_108 {X : CX} {d : Nat} {o0 : Int} {I R : PF} {Q : PV → PF → PF → Prop} (z1 : o0 = 0 ∨ o0 = 1) (h : Q (0, o0) I R) : PN X d mX7_readThrow 108 [] [(0, o0)] I R Q := by
  refine P_zret rfl z1 (by decide +kernel) h
theorem S_X7_readWall_0 {X : CX} {d d1 : Nat} {t1 : Int} {I R : PF} {Q Q1 : PV → PF → PF → Prop} (r1 : R 110 2 = t1) (k1 : kd MF t1 = 6) (e1 : d1 + 1 ≤ d) (hc : CN X d1 mX7_takeKind [(2, 110), (0, (I t1 6)), (0, 10)] I R Q1) (h : ∀ z I2 R2, Q1 (0, z) I2 R2 → PN X d mX7_readWall 13 [(2, 110)] [(0, z)] I2 R2 Q) : PN X d mX7_readWall 0 [(2, 110)] [] I R Q := by
  refine P_aload_n (n := 0) (q := 1) rfl rfl (by decide +kernel) ?_
  refine P_aload_n (n := 0) (q := 2) rfl rfl (by decide +kernel) ?_
  refine B_getfR (q := 5) fX7_19 kM110 r1 rfl (by decide +kernel) ?_
  refine P_getf (q := 8) fX7_238 k1 rfl (by decide +kernel) ?_
  refine P_bipush (n := 10) (q := 10) rfl rfl (by decide +kernel) ?_
  refine P_invV (As := [(0, (I t1 6)), (0, 10)]) (q := 13) oX7_takeKind rfl kM110 kX7_158 e1 hMF (Nat.le_of_ble_eq_true rfl) hc rfl (by decide +kernel) (fun z I2 R2 hq => ?_)
  exact (h z I2 R2 hq)
theorem S_X7_readWall_13 {X : CX} {d : Nat} {o0 : Int} {I R : PF} {Q : PV → PF → PF → Prop} (c1 : -2147483648 ≤ o0 ∧ o0 < 2147483648) (h1 : o0 ≠ 0 → PN X d mX7_readWall 18 [(2, 110)] [] I R Q) (h2 : o0 = 0 → PN X d mX7_readWall 16 [] [] I R Q) : PN X d mX7_readWall 13 [(2, 110)] [(0, o0)] I R Q := by
  refine B_if_ne (off := 5) (t := 18) (q := 16) c1 (by decide) rfl (by decide +kernel) ?_ ?_
  · exact fun g9 => (h1 g9)
  · exact fun g9 => (PW_sub (ls' := []) trivial (h2 g9))
theorem S_X7_readWall_16 {X : CX} {d : Nat} {I R : PF} {Q : PV → PF → PF → Prop} (h : Q (0, 0) I R) : PN X d mX7_readWall 16 [] [] I R Q := by
  refine P_iconst (n := 0) (q := 17) rfl (by decide +kernel) ?_
  refine P_zret rfl (Or.inl rfl) (by decide +kernel) h
theorem S_X7_readWall_18 {X : CX} {d d1 : Nat} {I R : PF} {Q Q1 : PV → PF → PF → Prop} (e1 : d1 + 1 ≤ d) (hc : CN X d1 mX7_takePlace [(2, 110), (0, 1)] I R Q1) (h : ∀ z I2 R2, Q1 (0, z) I2 R2 → PN X d mX7_readWall 23 [(2, 110)] [(0, z)] I2 R2 Q) : PN X d mX7_readWall 18 [(2, 110)] [] I R Q := by
  refine P_aload_n (n := 0) (q := 19) rfl rfl (by decide +kernel) ?_
  refine P_iconst (n := 1) (q := 20) rfl (by decide +kernel) ?_
  refine P_invV (As := [(0, 1)]) (q := 23) oX7_takePlace rfl kM110 kX7_192 e1 hMF (Nat.le_of_ble_eq_true rfl) hc rfl (by decide +kernel) (fun z I2 R2 hq => ?_)
  exact (h z I2 R2 hq)
theorem S_X7_readWall_23 {X : CX} {d : Nat} {o0 : Int} {I R : PF} {Q : PV → PF → PF → Prop} (c1 : -2147483648 ≤ o0 ∧ o0 < 2147483648) (h1 : o0 ≠ (-1) → PN X d mX7_readWall 31 [(2, 110), (0, o0)] [] I R Q) (h2 : o0 = (-1) → PN X d mX7_readWall 29 [] [] I R Q) : PN X d mX7_readWall 23 [(2, 110)] [(0, o0)] I R Q := by
  refine P_istore_n (n := 1) (by decide) (q := 24) rfl (by decide +kernel) ?_
  refine P_iload_n (n := 1) (q := 25) rfl rfl (by decide +kernel) ?_
  refine P_iconst (n := (-1)) (q := 26) rfl (by decide +kernel) ?_
  refine B_icmp_ne (off := 5) (t := 31) (q := 29) c1 ⟨by decide, by decide⟩ (by decide) rfl (by decide +kernel) ?_ ?_
  · exact fun g9 => (h1 g9)
  · exact fun g9 => (PW_sub (ls' := []) trivial (h2 g9))
theorem S_X7_readWall_29 {X : CX} {d : Nat} {I R : PF} {Q : PV → PF → PF → Prop} (h : Q (0, 0) I R) : PN X d mX7_readWall 29 [] [] I R Q := by
  refine P_iconst (n := 0) (q := 30) rfl (by decide +kernel) ?_
  refine P_zret rfl (Or.inl rfl) (by decide +kernel) h
theorem S_X7_readWall_31 {X : CX} {d : Nat} {x1 t1 : Int} {I R : PF} {Q : PV → PF → PF → Prop} (hs : Shp R) (r1 : R 110 2 = t1) (k1 : kd MF t1 = 6) (b1 : (0 : Int) ≤ x1 ∧ x1 < 81) (h : Q (0, 1) (u2 (u2 I (t1 + 3) x1 1) t1 6 (((u2 I (t1 + 3) x1 1) t1 6) + 1)) R) : PN X d mX7_readWall 31 [(2, 110), (0, x1)] [] I R Q := by
  refine P_aload_n (n := 0) (q := 32) rfl rfl (by decide +kernel) ?_
  refine B_getfR (q := 35) fX7_19 kM110 r1 rfl (by decide +kernel) ?_
  refine B_getfR (q := 38) fX7_241 k1 (sh6_10 hs k1) rfl (by decide +kernel) ?_
  refine P_iload_n (n := 1) (q := 39) rfl rfl (by decide +kernel) ?_
  refine P_iconst (n := 1) (q := 40) rfl (by decide +kernel) ?_
  refine B_iastore (q := 41) (sq3 k1) (sq3n k1) (by decide) b1 rfl (by decide +kernel) ?_
  refine P_aload_n (n := 0) (q := 42) rfl rfl (by decide +kernel) ?_
  refine B_getfR (q := 45) fX7_19 kM110 r1 rfl (by decide +kernel) ?_
  refine P_dup (q := 46) (Nat.ne_of_beq_eq_false rfl) rfl (by decide +kernel) ?_
  refine P_getf (q := 49) fX7_238 k1 rfl (by decide +kernel) ?_
  refine P_iconst (n := 1) (q := 50) rfl (by decide +kernel) ?_
  refine P_iadd (q := 51) rfl (by decide +kernel) ?_
  refine P_putI (q := 54) wX7_238 (fun h => by cases h) k1 rfl (by decide +kernel) ?_
  refine P_iconst (n := 1) (q := 55) rfl (by decide +kernel) ?_
  refine P_zret rfl (Or.inr rfl) (by decide +kernel) h
theorem S_X7_takeKind_0 {X : CX} {d : Nat} {x1 x2 : Int} {I R : PF} {Q : PV → PF → PF → Prop} (c1 : -2147483648 ≤ x1 ∧ x1 < 2147483648) (c2 : -2147483648 ≤ x2 ∧ x2 < 2147483648) (h1 : x1 < x2 → PN X d mX7_takeKind 21 [(2, 110)] [] I R Q) (h2 : x2 ≤ x1 → PN X d mX7_takeKind 5 [(2, 110)] [] I R Q) : PN X d mX7_takeKind 0 [(2, 110), (0, x1), (0, x2)] [] I R Q := by
  refine P_iload_n (n := 1) (q := 1) rfl rfl (by decide +kernel) ?_
  refine P_iload_n (n := 2) (q := 2) rfl rfl (by decide +kernel) ?_
  refine B_icmp_lt (off := 19) (t := 21) (q := 5) c1 c2 (by decide) rfl (by decide +kernel) ?_ ?_
  · exact fun g9 => (PW_sub (ls' := [(2, 110)]) ⟨Or.inr rfl, trivial⟩ (h1 g9))
  · exact fun g9 => (PW_sub (ls' := [(2, 110)]) ⟨Or.inr rfl, trivial⟩ (h2 g9))
theorem S_X7_takeKind_5 {X : CX} {d d1 : Nat} {I R : PF} {Q Q1 : PV → PF → PF → Prop} (hs : Shp R) (e1 : d1 + 1 ≤ d) (hc : CN X d1 mX5_refuse [(2, 67), (0, 5), (0, (I 67 3))] I R Q1) (h : ∀ z I2 R2, Q1 (0, z) I2 R2 → PN X d mX7_takeKind 20 [] [(0, z)] I2 R2 Q) : PN X d mX7_takeKind 5 [(2, 110)] [] I R Q := by
  refine P_aload_n (n := 0) (q := 6) rfl rfl (by decide +kernel) ?_
  refine B_getfR (q := 9) fX7_9 kM110 (rM110_0 hs) rfl (by decide +kernel) ?_
  refine P_iconst (n := 5) (q := 10) rfl (by decide +kernel) ?_
  refine P_aload_n (n := 0) (q := 11) rfl rfl (by decide +kernel) ?_
  refine B_getfR (q := 14) fX7_9 kM110 (rM110_0 hs) rfl (by decide +kernel) ?_
  refine P_getf (q := 17) fX7_44 kM67 rfl (by decide +kernel) ?_
  refine P_invV (As := [(0, 5), (0, (I 67 3))]) (q := 20) oX5_refuse rfl kM67 kX7_48 e1 hMF (Nat.le_of_ble_eq_true rfl) hc rfl (by decide +kernel) (fun z I2 R2 hq => ?_)
  exact (PW_sub (ls' := []) trivial (h z I2 R2 hq))
theorem S_X7_takeKind_20 {X : CX} {d : Nat} {o0 : Int} {I R : PF} {Q : PV → PF → PF → Prop} (z1 : o0 = 0 ∨ o0 = 1) (h : Q (0, o0) I R) : PN X d mX7_takeKind 20 [] [(0, o0)] I R Q := by
  refine P_zret rfl z1 (by decide +kernel) h
theorem S_X7_takeKind_21 {X : CX} {d d1 : Nat} {I R : PF} {Q Q1 : PV → PF → PF → Prop} (hs : Shp R) (e1 : d1 + 1 ≤ d) (hc : CN X d1 mX5_advance [(2, 67)] I R Q1) (h : ∀ z I2 R2, Q1 (9, z) I2 R2 → PN X d mX7_takeKind 28 [] [] I2 R2 Q) : PN X d mX7_takeKind 21 [(2, 110)] [] I R Q := by
  refine P_aload_n (n := 0) (q := 22) rfl rfl (by decide +kernel) ?_
  refine B_getfR (q := 25) fX7_9 kM110 (rM110_0 hs) rfl (by decide +kernel) ?_
  refine P_invV (As := []) (q := 28) oX5_advance rfl kM67 kX7_150 e1 hMF (Nat.le_of_ble_eq_true rfl) hc rfl (by decide +kernel) (fun z I2 R2 hq => ?_)
  exact (PW_sub (ls' := []) trivial (h z I2 R2 hq))
theorem S_X7_takeKind_28 {X : CX} {d : Nat} {I R : PF} {Q : PV → PF → PF → Prop} (h : Q (0, 1) I R) : PN X d mX7_takeKind 28 [] [] I R Q := by
  refine P_iconst (n := 1) (q := 29) rfl (by decide +kernel) ?_
  refine P_zret rfl (Or.inr rfl) (by decide +kernel) h
theorem S_X7_takeLaw_0 {X : CX} {d d1 : Nat} {I R : PF} {Q Q1 : PV → PF → PF → Prop} (hs : Shp R) (e1 : d1 + 1 ≤ d) (hc : CN X d1 mX5_takeName [(2, 67)] I R Q1) (h : ∀ z I2 R2, Q1 (0, z) I2 R2 → PN X d mX7_takeLaw 7 [(2, 110)] [(0, z)] I2 R2 Q) : PN X d mX7_takeLaw 0 [(2, 110)] [] I R Q := by
  refine P_aload_n (n := 0) (q := 1) rfl rfl (by decide +kernel) ?_
  refine B_getfR (q := 4) fX7_9 kM110 (rM110_0 hs) rfl (by decide +kernel) ?_
  refine P_invV (As := []) (q := 7) oX5_takeName rfl kM67 kX7_172 e1 hMF (Nat.le_of_ble_eq_true rfl) hc rfl (by decide +kernel) (fun z I2 R2 hq => ?_)
  exact (h z I2 R2 hq)
theorem S_X7_takeLaw_7 {X : CX} {d : Nat} {o0 : Int} {I R : PF} {Q : PV → PF → PF → Prop} (c1 : -2147483648 ≤ o0 ∧ o0 < 2147483648) (h1 : o0 ≠ (-1) → PN X d mX7_takeLaw 15 [(2, 110), (0, o0)] [] I R Q) (h2 : o0 = (-1) → PN X d mX7_takeLaw 13 [] [] I R Q) : PN X d mX7_takeLaw 7 [(2, 110)] [(0, o0)] I R Q := by
  refine P_istore_n (n := 1) (by decide) (q := 8) rfl (by decide +kernel) ?_
  refine P_iload_n (n := 1) (q := 9) rfl rfl (by decide +kernel) ?_
  refine P_iconst (n := (-1)) (q := 10) rfl (by decide +kernel) ?_
  refine B_icmp_ne (off := 5) (t := 15) (q := 13) c1 ⟨by decide, by decide⟩ (by decide) rfl (by decide +kernel) ?_ ?_
  · exact fun g9 => (h1 g9)
  · exact fun g9 => (PW_sub (ls' := []) trivial (h2 g9))
theorem S_X7_takeLaw_13 {X : CX} {d : Nat} {I R : PF} {Q : PV → PF → PF → Prop} (h : Q (0, (-1)) I R) : PN X d mX7_takeLaw 13 [] [] I R Q := by
  refine P_iconst (n := (-1)) (q := 14) rfl (by decide +kernel) ?_
  refine P_iret rfl (by decide +kernel) h
theorem S_X7_takeLaw_15 {X : CX} {d d1 : Nat} {x1 t1 : Int} {I R : PF} {Q Q1 : PV → PF → PF → Prop} (r1 : R 110 2 = t1) (e1 : d1 + 1 ≤ d) (hc : CN X d1 mX6_lawNamed [(2, t1), (0, x1)] I R Q1) (k1 : kd MF t1 = 6) (h : ∀ z I2 R2, Q1 (0, z) I2 R2 → PN X d mX7_takeLaw 23 [(2, 110)] [(0, z)] I2 R2 Q) : PN X d mX7_takeLaw 15 [(2, 110), (0, x1)] [] I R Q := by
  refine P_aload_n (n := 0) (q := 16) rfl rfl (by decide +kernel) ?_
  refine B_getfR (q := 19) fX7_19 kM110 r1 rfl (by decide +kernel) ?_
  refine P_iload_n (n := 1) (q := 20) rfl rfl (by decide +kernel) ?_
  refine P_invV (As := [(0, x1)]) (q := 23) oX6_lawNamed rfl k1 kX7_225 e1 hMF (Nat.le_of_ble_eq_true rfl) hc rfl (by decide +kernel) (fun z I2 R2 hq => ?_)
  exact (PW_sub (ls' := [(2, 110)]) ⟨Or.inr rfl, trivial⟩ (h z I2 R2 hq))
theorem S_X7_takeLaw_23 {X : CX} {d : Nat} {o0 : Int} {I R : PF} {Q : PV → PF → PF → Prop} (c1 : -2147483648 ≤ o0 ∧ o0 < 2147483648) (h1 : o0 ≠ (-1) → PN X d mX7_takeLaw 45 [(9, 0), (9, 0), (0, o0)] [] I R Q) (h2 : o0 = (-1) → PN X d mX7_takeLaw 29 [(2, 110), (9, 0), (0, o0)] [] I R Q) : PN X d mX7_takeLaw 23 [(2, 110)] [(0, o0)] I R Q := by
  refine P_istore_n (n := 2) (by decide) (q := 24) rfl (by decide +kernel) ?_
  refine P_iload_n (n := 2) (q := 25) rfl rfl (by decide +kernel) ?_
  refine P_iconst (n := (-1)) (q := 26) rfl (by decide +kernel) ?_
  refine B_icmp_ne (off := 19) (t := 45) (q := 29) c1 ⟨by decide, by decide⟩ (by decide) rfl (by decide +kernel) ?_ ?_
  · exact fun g9 => (PW_sub (ls' := [(9, 0), (9, 0), (0, o0)]) ⟨Or.inl rfl, Or.inl rfl, Or.inr rfl, trivial⟩ (h1 g9))
  · exact fun g9 => (h2 g9)
theorem S_X7_takeLaw_29 {X : CX} {d d1 : Nat} {x2 : Int} {I R : PF} {Q Q1 : PV → PF → PF → Prop} (hs : Shp R) (e1 : d1 + 1 ≤ d) (hc : CN X d1 mX5_refuse [(2, 67), (0, 3), (0, (I 67 7))] I R Q1) (h : ∀ z I2 R2, Q1 (0, z) I2 R2 → PN X d mX7_takeLaw 44 [(9, 0), (9, 0), (0, x2)] [(0, z)] I2 R2 Q) : PN X d mX7_takeLaw 29 [(2, 110), (9, 0), (0, x2)] [] I R Q := by
  refine P_aload_n (n := 0) (q := 30) rfl rfl (by decide +kernel) ?_
  refine B_getfR (q := 33) fX7_9 kM110 (rM110_0 hs) rfl (by decide +kernel) ?_
  refine P_iconst (n := 3) (q := 34) rfl (by decide +kernel) ?_
  refine P_aload_n (n := 0) (q := 35) rfl rfl (by decide +kernel) ?_
  refine B_getfR (q := 38) fX7_9 kM110 (rM110_0 hs) rfl (by decide +kernel) ?_
  refine P_getf (q := 41) fX7_178 kM67 rfl (by decide +kernel) ?_
  refine P_invV (As := [(0, 3), (0, (I 67 7))]) (q := 44) oX5_refuse rfl kM67 kX7_48 e1 hMF (Nat.le_of_ble_eq_true rfl) hc rfl (by decide +kernel) (fun z I2 R2 hq => ?_)
  exact (PW_sub (ls' := [(9, 0), (9, 0), (0, x2)]) ⟨Or.inl rfl, Or.inl rfl, Or.inr rfl, trivial⟩ (h z I2 R2 hq))
theorem S_X7_takeLaw_44 {X : CX} {d : Nat} {x2 o0 : Int} {I R : PF} {Q : PV → PF → PF → Prop} (h : PN X d mX7_takeLaw 45 [(9, 0), (9, 0), (0, x2)] [] I R Q) : PN X d mX7_takeLaw 44 [(9, 0), (9, 0), (0, x2)] [(0, o0)] I R Q := by
  refine P_pop (q := 45) (Nat.ne_of_beq_eq_false rfl) rfl (by decide +kernel) ?_
  exact h
theorem S_X7_takeLaw_45 {X : CX} {d : Nat} {x2 : Int} {I R : PF} {Q : PV → PF → PF → Prop} (h : Q (0, x2) I R) : PN X d mX7_takeLaw 45 [(9, 0), (9, 0), (0, x2)] [] I R Q := by
  refine P_iload_n (n := 2) (q := 46) rfl rfl (by decide +kernel) ?_
  refine P_iret rfl (by decide +kernel) h
theorem S_X7_takeNewName_0 {X : CX} {d d1 : Nat} {I R : PF} {Q Q1 : PV → PF → PF → Prop} (hs : Shp R) (e1 : d1 + 1 ≤ d) (hc : CN X d1 mX5_takeName [(2, 67)] I R Q1) (h : ∀ z I2 R2, Q1 (0, z) I2 R2 → PN X d mX7_takeNewName 7 [(2, 110)] [(0, z)] I2 R2 Q) : PN X d mX7_takeNewName 0 [(2, 110)] [] I R Q := by
  refine P_aload_n (n := 0) (q := 1) rfl rfl (by decide +kernel) ?_
  refine B_getfR (q := 4) fX7_9 kM110 (rM110_0 hs) rfl (by decide +kernel) ?_
  refine P_invV (As := []) (q := 7) oX5_takeName rfl kM67 kX7_172 e1 hMF (Nat.le_of_ble_eq_true rfl) hc rfl (by decide +kernel) (fun z I2 R2 hq => ?_)
  exact (h z I2 R2 hq)
theorem S_X7_takeNewName_7 {X : CX} {d : Nat} {o0 : Int} {I R : PF} {Q : PV → PF → PF → Prop} (c1 : -2147483648 ≤ o0 ∧ o0 < 2147483648) (h1 : o0 = (-1) → PN X d mX7_takeNewName 42 [(9, 0), (0, o0)] [] I R Q) (h2 : o0 ≠ (-1) → PN X d mX7_takeNewName 13 [(2, 110), (0, o0)] [] I R Q) : PN X d mX7_takeNewName 7 [(2, 110)] [(0, o0)] I R Q := by
  refine P_istore_n (n := 1) (by decide) (q := 8) rfl (by decide +kernel) ?_
  refine P_iload_n (n := 1) (q := 9) rfl rfl (by decide +kernel) ?_
  refine P_iconst (n := (-1)) (q := 10) rfl (by decide +kernel) ?_
  refine B_icmp_eq (off := 32) (t := 42) (q := 13) c1 ⟨by decide, by decide⟩ (by decide) rfl (by decide +kernel) ?_ ?_
  · exact fun g9 => (PW_sub (ls' := [(9, 0), (0, o0)]) ⟨Or.inl rfl, Or.inr rfl, trivial⟩ (h1 g9))
  · exact fun g9 => (h2 g9)
theorem S_X7_takeNewName_13 {X : CX} {d d1 : Nat} {x1 t1 : Int} {I R : PF} {Q Q1 : PV → PF → PF → Prop} (r1 : R 110 2 = t1) (e1 : d1 + 1 ≤ d) (hc : CN X d1 mX6_knowsName [(2, t1), (0, x1)] I R Q1) (k1 : kd MF t1 = 6) (h : ∀ z I2 R2, Q1 (0, z) I2 R2 → PN X d mX7_takeNewName 21 [(2, 110), (0, x1)] [(0, z)] I2 R2 Q) : PN X d mX7_takeNewName 13 [(2, 110), (0, x1)] [] I R Q := by
  refine P_aload_n (n := 0) (q := 14) rfl rfl (by decide +kernel) ?_
  refine B_getfR (q := 17) fX7_19 kM110 r1 rfl (by decide +kernel) ?_
  refine P_iload_n (n := 1) (q := 18) rfl rfl (by decide +kernel) ?_
  refine P_invV (As := [(0, x1)]) (q := 21) oX6_knowsName rfl k1 kX7_175 e1 hMF (Nat.le_of_ble_eq_true rfl) hc rfl (by decide +kernel) (fun z I2 R2 hq => ?_)
  exact (h z I2 R2 hq)
theorem S_X7_takeNewName_21 {X : CX} {d : Nat} {x1 o0 : Int} {I R : PF} {Q : PV → PF → PF → Prop} (c1 : -2147483648 ≤ o0 ∧ o0 < 2147483648) (h1 : o0 = 0 → PN X d mX7_takeNewName 42 [(9, 0), (0, x1)] [] I R Q) (h2 : o0 ≠ 0 → PN X d mX7_takeNewName 24 [(2, 110)] [] I R Q) : PN X d mX7_takeNewName 21 [(2, 110), (0, x1)] [(0, o0)] I R Q := by
  refine B_if_eq (off := 21) (t := 42) (q := 24) c1 (by decide) rfl (by decide +kernel) ?_ ?_
  · exact fun g9 => (PW_sub (ls' := [(9, 0), (0, x1)]) ⟨Or.inl rfl, Or.inr rfl, trivial⟩ (h1 g9))
  · exact fun g9 => (PW_sub (ls' := [(2, 110)]) ⟨Or.inr rfl, trivial⟩ (h2 g9))
theorem S_X7_takeNewName_24 {X : CX} {d d1 : Nat} {I R : PF} {Q Q1 : PV → PF → PF → Prop} (hs : Shp R) (e1 : d1 + 1 ≤ d) (hc : CN X d1 mX5_refuse [(2, 67), (0, 3), (0, (I 67 7))] I R Q1) (h : ∀ z I2 R2, Q1 (0, z) I2 R2 → PN X d mX7_takeNewName 39 [] [(0, z)] I2 R2 Q) : PN X d mX7_takeNewName 24 [(2, 110)] [] I R Q := by
  refine P_aload_n (n := 0) (q := 25) rfl rfl (by decide +kernel) ?_
  refine B_getfR (q := 28) fX7_9 kM110 (rM110_0 hs) rfl (by decide +kernel) ?_
  refine P_iconst (n := 3) (q := 29) rfl (by decide +kernel) ?_
  refine P_aload_n (n := 0) (q := 30) rfl rfl (by decide +kernel) ?_
  refine B_getfR (q := 33) fX7_9 kM110 (rM110_0 hs) rfl (by decide +kernel) ?_
  refine P_getf (q := 36) fX7_178 kM67 rfl (by decide +kernel) ?_
  refine P_invV (As := [(0, 3), (0, (I 67 7))]) (q := 39) oX5_refuse rfl kM67 kX7_48 e1 hMF (Nat.le_of_ble_eq_true rfl) hc rfl (by decide +kernel) (fun z I2 R2 hq => ?_)
  exact (PW_sub (ls' := []) trivial (h z I2 R2 hq))
theorem S_X7_takeNewName_39 {X : CX} {d : Nat} {o0 : Int} {I R : PF} {Q : PV → PF → PF → Prop} (h : Q (0, (-1)) I R) : PN X d mX7_takeNewName 39 [] [(0, o0)] I R Q := by
  refine P_pop (q := 40) (Nat.ne_of_beq_eq_false rfl) rfl (by decide +kernel) ?_
  refine P_iconst (n := (-1)) (q := 41) rfl (by decide +kernel) ?_
  refine P_iret rfl (by decide +kernel) h
theorem S_X7_takeNewName_42 {X : CX} {d : Nat} {x1 : Int} {I R : PF} {Q : PV → PF → PF → Prop} (h : Q (0, x1) I R) : PN X d mX7_takeNewName 42 [(9, 0), (0, x1)] [] I R Q := by
  refine P_iload_n (n := 1) (q := 43) rfl rfl (by decide +kernel) ?_
  refine P_iret rfl (by decide +kernel) h
theorem S_X7_takeOne_0 {X : CX} {d d1 : Nat} {a1 : Int} {I R : PF} {Q Q1 : PV → PF → PF → Prop} (e1 : d1 + 1 ≤ d) (hc : CN X d1 mX2_isTold [(2, a1)] I R Q1) (k1 : kd MF a1 = 2) (h : ∀ z I2 R2, Q1 (0, z) I2 R2 → PN X d mX7_takeOne 5 [] [(0, z), (2, 110)] I2 R2 Q) : PN X d mX7_takeOne 0 [(2, 110), (2, a1)] [] I R Q := by
  refine P_aload_n (n := 0) (q := 1) rfl rfl (by decide +kernel) ?_
  refine P_aload_n (n := 1) (q := 2) rfl rfl (by decide +kernel) ?_
  refine P_invV (As := []) (q := 5) oX2_isTold rfl k1 kX7_153 e1 hMF (Nat.le_of_ble_eq_true rfl) hc rfl (by decide +kernel) (fun z I2 R2 hq => ?_)
  exact (PW_sub (ls' := []) trivial (h z I2 R2 hq))
theorem S_X7_takeOne_5 {X : CX} {d : Nat} {o1 : Int} {I R : PF} {Q : PV → PF → PF → Prop} (c1 : -2147483648 ≤ o1 ∧ o1 < 2147483648) (h1 : o1 = 0 → PN X d mX7_takeOne 12 [] [(2, 110)] I R Q) (h2 : o1 ≠ 0 → PN X d mX7_takeOne 8 [] [(2, 110)] I R Q) : PN X d mX7_takeOne 5 [] [(0, o1), (2, 110)] I R Q := by
  refine B_if_eq (off := 7) (t := 12) (q := 8) c1 (by decide) rfl (by decide +kernel) ?_ ?_
  · exact fun g9 => (PW_sub (ls' := []) trivial (h1 g9))
  · exact fun g9 => (PW_sub (ls' := []) trivial (h2 g9))
theorem S_X7_takeOne_8 {X : CX} {d : Nat} {I R : PF} {Q : PV → PF → PF → Prop} (h : PN X d mX7_takeOne 13 [] [(0, 1), (2, 110)] I R Q) : PN X d mX7_takeOne 8 [] [(2, 110)] I R Q := by
  refine P_iconst (n := 1) (q := 9) rfl (by decide +kernel) ?_
  refine P_goto (off := 4) (t := 13) (by decide) (by decide +kernel) ?_
  exact (PW_sub (ls' := []) trivial h)
theorem S_X7_takeOne_12 {X : CX} {d : Nat} {I R : PF} {Q : PV → PF → PF → Prop} (h : PN X d mX7_takeOne 13 [] [(0, 0), (2, 110)] I R Q) : PN X d mX7_takeOne 12 [] [(2, 110)] I R Q := by
  refine P_iconst (n := 0) (q := 13) rfl (by decide +kernel) ?_
  exact (PW_sub (ls' := []) trivial h)
theorem S_X7_takeOne_13 {X : CX} {d d1 : Nat} {o1 : Int} {I R : PF} {Q Q1 : PV → PF → PF → Prop} (e1 : d1 + 1 ≤ d) (hc : CN X d1 mX7_takeKind [(2, 110), (0, o1), (0, 1)] I R Q1) (h : ∀ z I2 R2, Q1 (0, z) I2 R2 → PN X d mX7_takeOne 17 [] [(0, z)] I2 R2 Q) : PN X d mX7_takeOne 13 [] [(0, o1), (2, 110)] I R Q := by
  refine P_iconst (n := 1) (q := 14) rfl (by decide +kernel) ?_
  refine P_invV (As := [(0, o1), (0, 1)]) (q := 17) oX7_takeKind rfl kM110 kX7_158 e1 hMF (Nat.le_of_ble_eq_true rfl) hc rfl (by decide +kernel) (fun z I2 R2 hq => ?_)
  exact (PW_sub (ls' := []) trivial (h z I2 R2 hq))
theorem S_X7_takeOne_17 {X : CX} {d : Nat} {o0 : Int} {I R : PF} {Q : PV → PF → PF → Prop} (z1 : o0 = 0 ∨ o0 = 1) (h : Q (0, o0) I R) : PN X d mX7_takeOne 17 [] [(0, o0)] I R Q := by
  refine P_zret rfl z1 (by decide +kernel) h
theorem S_X7_takePlace_0 {X : CX} {d d1 : Nat} {x1 t1 : Int} {I R : PF} {Q Q1 : PV → PF → PF → Prop} (hs : Shp R) (r1 : R 110 2 = t1) (k1 : kd MF t1 = 6) (e1 : d1 + 1 ≤ d) (hc : CN X d1 mX5_takeNumber [(2, 67), (0, 0), (0, ((I t1 0) - 1))] I R Q1) (h : ∀ z I2 R2, Q1 (0, z) I2 R2 → PN X d mX7_takePlace 17 [(2, 110), (0, x1)] [(0, z)] I2 R2 Q) : PN X d mX7_takePlace 0 [(2, 110), (0, x1)] [] I R Q := by
  refine P_aload_n (n := 0) (q := 1) rfl rfl (by decide +kernel) ?_
  refine B_getfR (q := 4) fX7_9 kM110 (rM110_0 hs) rfl (by decide +kernel) ?_
  refine P_iconst (n := 0) (q := 5) rfl (by decide +kernel) ?_
  refine P_aload_n (n := 0) (q := 6) rfl rfl (by decide +kernel) ?_
  refine B_getfR (q := 9) fX7_19 kM110 r1 rfl (by decide +kernel) ?_
  refine P_getf (q := 12) fX7_69 k1 rfl (by decide +kernel) ?_
  refine P_iconst (n := 1) (q := 13) rfl (by decide +kernel) ?_
  refine P_isub (q := 14) rfl (by decide +kernel) ?_
  refine P_invV (As := [(0, 0), (0, ((I t1 0) - 1))]) (q := 17) oX5_takeNumber rfl kM67 kX7_65 e1 hMF (Nat.le_of_ble_eq_true rfl) hc rfl (by decide +kernel) (fun z I2 R2 hq => ?_)
  exact (h z I2 R2 hq)
theorem S_X7_takePlace_17 {X : CX} {d : Nat} {x1 o0 : Int} {I R : PF} {Q : PV → PF → PF → Prop} (c1 : -2147483648 ≤ o0 ∧ o0 < 2147483648) (h1 : o0 ≠ (-1) → PN X d mX7_takePlace 25 [(2, 110), (0, x1), (0, o0)] [] I R Q) (h2 : o0 = (-1) → PN X d mX7_takePlace 23 [] [] I R Q) : PN X d mX7_takePlace 17 [(2, 110), (0, x1)] [(0, o0)] I R Q := by
  refine P_istore_n (n := 2) (by decide) (q := 18) rfl (by decide +kernel) ?_
  refine P_iload_n (n := 2) (q := 19) rfl rfl (by decide +kernel) ?_
  refine P_iconst (n := (-1)) (q := 20) rfl (by decide +kernel) ?_
  refine B_icmp_ne (off := 5) (t := 25) (q := 23) c1 ⟨by decide, by decide⟩ (by decide) rfl (by decide +kernel) ?_ ?_
  · exact fun g9 => (h1 g9)
  · exact fun g9 => (PW_sub (ls' := []) trivial (h2 g9))
theorem S_X7_takePlace_23 {X : CX} {d : Nat} {I R : PF} {Q : PV → PF → PF → Prop} (h : Q (0, (-1)) I R) : PN X d mX7_takePlace 23 [] [] I R Q := by
  refine P_iconst (n := (-1)) (q := 24) rfl (by decide +kernel) ?_
  refine P_iret rfl (by decide +kernel) h
theorem S_X7_takePlace_25 {X : CX} {d d1 : Nat} {x1 x2 t1 : Int} {I R : PF} {Q Q1 : PV → PF → PF → Prop} (hs : Shp R) (r1 : R 110 2 = t1) (k1 : kd MF t1 = 6) (e1 : d1 + 1 ≤ d) (hc : CN X d1 mX5_takeNumber [(2, 67), (0, 0), (0, ((I t1 1) - 1))] I R Q1) (h : ∀ z I2 R2, Q1 (0, z) I2 R2 → PN X d mX7_takePlace 42 [(2, 110), (0, x1), (0, x2)] [(0, z)] I2 R2 Q) : PN X d mX7_takePlace 25 [(2, 110), (0, x1), (0, x2)] [] I R Q := by
  refine P_aload_n (n := 0) (q := 26) rfl rfl (by decide +kernel) ?_
  refine B_getfR (q := 29) fX7_9 kM110 (rM110_0 hs) rfl (by decide +kernel) ?_
  refine P_iconst (n := 0) (q := 30) rfl (by decide +kernel) ?_
  refine P_aload_n (n := 0) (q := 31) rfl rfl (by decide +kernel) ?_
  refine B_getfR (q := 34) fX7_19 kM110 r1 rfl (by decide +kernel) ?_
  refine P_getf (q := 37) fX7_75 k1 rfl (by decide +kernel) ?_
  refine P_iconst (n := 1) (q := 38) rfl (by decide +kernel) ?_
  refine P_isub (q := 39) rfl (by decide +kernel) ?_
  refine P_invV (As := [(0, 0), (0, ((I t1 1) - 1))]) (q := 42) oX5_takeNumber rfl kM67 kX7_65 e1 hMF (Nat.le_of_ble_eq_true rfl) hc rfl (by decide +kernel) (fun z I2 R2 hq => ?_)
  exact (h z I2 R2 hq)
theorem S_X7_takePlace_42 {X : CX} {d : Nat} {x1 x2 o0 : Int} {I R : PF} {Q : PV → PF → PF → Prop} (c1 : -2147483648 ≤ o0 ∧ o0 < 2147483648) (h1 : o0 ≠ (-1) → PN X d mX7_takePlace 50 [(2, 110), (0, x1), (0, x2), (0, o0)] [] I R Q) (h2 : o0 = (-1) → PN X d mX7_takePlace 48 [] [] I R Q) : PN X d mX7_takePlace 42 [(2, 110), (0, x1), (0, x2)] [(0, o0)] I R Q := by
  refine P_istore_n (n := 3) (by decide) (q := 43) rfl (by decide +kernel) ?_
  refine P_iload_n (n := 3) (q := 44) rfl rfl (by decide +kernel) ?_
  refine P_iconst (n := (-1)) (q := 45) rfl (by decide +kernel) ?_
  refine B_icmp_ne (off := 5) (t := 50) (q := 48) c1 ⟨by decide, by decide⟩ (by decide) rfl (by decide +kernel) ?_ ?_
  · exact fun g9 => (h1 g9)
  · exact fun g9 => (PW_sub (ls' := []) trivial (h2 g9))
theorem S_X7_takePlace_48 {X : CX} {d : Nat} {I R : PF} {Q : PV → PF → PF → Prop} (h : Q (0, (-1)) I R) : PN X d mX7_takePlace 48 [] [] I R Q := by
  refine P_iconst (n := (-1)) (q := 49) rfl (by decide +kernel) ?_
  refine P_iret rfl (by decide +kernel) h
theorem S_X7_takePlace_50 {X : CX} {d d1 : Nat} {x1 x2 x3 t1 : Int} {I R : PF} {Q Q1 : PV → PF → PF → Prop} (r1 : R 110 2 = t1) (e1 : d1 + 1 ≤ d) (hc : CN X d1 mX6_walled [(2, t1), (0, x2), (0, x3)] I R Q1) (k1 : kd MF t1 = 6) (h : ∀ z I2 R2, Q1 (0, z) I2 R2 → PN X d mX7_takePlace 59 [(2, 110), (0, x1), (0, x2), (0, x3)] [(0, z)] I2 R2 Q) : PN X d mX7_takePlace 50 [(2, 110), (0, x1), (0, x2), (0, x3)] [] I R Q := by
  refine P_aload_n (n := 0) (q := 51) rfl rfl (by decide +kernel) ?_
  refine B_getfR (q := 54) fX7_19 kM110 r1 rfl (by decide +kernel) ?_
  refine P_iload_n (n := 2) (q := 55) rfl rfl (by decide +kernel) ?_
  refine P_iload_n (n := 3) (q := 56) rfl rfl (by decide +kernel) ?_
  refine P_invV (As := [(0, x2), (0, x3)]) (q := 59) oX6_walled rfl k1 kX7_229 e1 hMF (Nat.le_of_ble_eq_true rfl) hc rfl (by decide +kernel) (fun z I2 R2 hq => ?_)
  exact (h z I2 R2 hq)
theorem S_X7_takePlace_59 {X : CX} {d : Nat} {x1 x2 x3 o0 : Int} {I R : PF} {Q : PV → PF → PF → Prop} (c1 : -2147483648 ≤ o0 ∧ o0 < 2147483648) (h1 : o0 ≠ 0 → PN X d mX7_takePlace 78 [(2, 110), (0, x1), (0, x2), (0, x3)] [] I R Q) (h2 : o0 = 0 → PN X d mX7_takePlace 62 [(2, 110), (0, x1), (0, x2), (0, x3)] [] I R Q) : PN X d mX7_takePlace 59 [(2, 110), (0, x1), (0, x2), (0, x3)] [(0, o0)] I R Q := by
  refine B_if_ne (off := 19) (t := 78) (q := 62) c1 (by decide) rfl (by decide +kernel) ?_ ?_
  · exact fun g9 => (h1 g9)
  · exact fun g9 => (h2 g9)
theorem S_X7_takePlace_62 {X : CX} {d d1 : Nat} {x1 x2 x3 t1 : Int} {I R : PF} {Q Q1 : PV → PF → PF → Prop} (hs : Shp R) (r1 : R 110 2 = t1) (k1 : kd MF t1 = 6) (e1 : d1 + 1 ≤ d) (hc : CN X d1 mX8_whoStands [(2, (t1 + 11)), (0, x2), (0, x3)] I R Q1) (h : ∀ z I2 R2, Q1 (0, z) I2 R2 → PN X d mX7_takePlace 74 [(2, 110), (0, x1), (0, x2), (0, x3)] [(0, z)] I2 R2 Q) : PN X d mX7_takePlace 62 [(2, 110), (0, x1), (0, x2), (0, x3)] [] I R Q := by
  refine P_aload_n (n := 0) (q := 63) rfl rfl (by decide +kernel) ?_
  refine B_getfR (q := 66) fX7_19 kM110 r1 rfl (by decide +kernel) ?_
  refine B_getfR (q := 69) fX7_181 k1 (sh6_14 hs k1) rfl (by decide +kernel) ?_
  refine P_iload_n (n := 2) (q := 70) rfl rfl (by decide +kernel) ?_
  refine P_iload_n (n := 3) (q := 71) rfl rfl (by decide +kernel) ?_
  refine P_invV (As := [(0, x2), (0, x3)]) (q := 74) oX8_whoStands rfl (sq11 k1) kX7_232 e1 hMF (Nat.le_of_ble_eq_true rfl) hc rfl (by decide +kernel) (fun z I2 R2 hq => ?_)
  exact (h z I2 R2 hq)
theorem S_X7_takePlace_74 {X : CX} {d : Nat} {x1 x2 x3 o0 : Int} {I R : PF} {Q : PV → PF → PF → Prop} (c1 : -2147483648 ≤ o0 ∧ o0 < 2147483648) (h1 : o0 = (-1) → PN X d mX7_takePlace 82 [(2, 110), (0, x1), (0, x2), (0, x3)] [] I R Q) (h2 : o0 ≠ (-1) → PN X d mX7_takePlace 78 [(2, 110), (0, x1), (0, x2), (0, x3)] [] I R Q) : PN X d mX7_takePlace 74 [(2, 110), (0, x1), (0, x2), (0, x3)] [(0, o0)] I R Q := by
  refine P_iconst (n := (-1)) (q := 75) rfl (by decide +kernel) ?_
  refine B_icmp_eq (off := 7) (t := 82) (q := 78) c1 ⟨by decide, by decide⟩ (by decide) rfl (by decide +kernel) ?_ ?_
  · exact fun g9 => (h1 g9)
  · exact fun g9 => (h2 g9)
theorem S_X7_takePlace_78 {X : CX} {d : Nat} {x1 x2 x3 : Int} {I R : PF} {Q : PV → PF → PF → Prop} (h : PN X d mX7_takePlace 83 [(2, 110), (0, x1), (0, x2), (0, x3)] [(0, 1)] I R Q) : PN X d mX7_takePlace 78 [(2, 110), (0, x1), (0, x2), (0, x3)] [] I R Q := by
  refine P_iconst (n := 1) (q := 79) rfl (by decide +kernel) ?_
  refine P_goto (off := 4) (t := 83) (by decide) (by decide +kernel) ?_
  exact h
theorem S_X7_takePlace_82 {X : CX} {d : Nat} {x1 x2 x3 : Int} {I R : PF} {Q : PV → PF → PF → Prop} (h : PN X d mX7_takePlace 83 [(2, 110), (0, x1), (0, x2), (0, x3)] [(0, 0)] I R Q) : PN X d mX7_takePlace 82 [(2, 110), (0, x1), (0, x2), (0, x3)] [] I R Q := by
  refine P_iconst (n := 0) (q := 83) rfl (by decide +kernel) ?_
  exact h
theorem S_X7_takePlace_83 {X : CX} {d : Nat} {x1 x2 x3 o0 : Int} {I R : PF} {Q : PV → PF → PF → Prop} (c1 : -2147483648 ≤ o0 ∧ o0 < 2147483648) (h1 : o0 ≠ 0 → PN X d mX7_takePlace 106 [(2, 110)] [] I R Q) (h2 : o0 = 0 → PN X d mX7_takePlace 90 [(2, 110), (0, x1), (0, x2), (0, x3)] [] I R Q) : PN X d mX7_takePlace 83 [(2, 110), (0, x1), (0, x2), (0, x3)] [(0, o0)] I R Q := by
  refine P_istore (n := 4) (by decide) (q := 85) rfl (by decide +kernel) ?_
  refine P_iload (n := 4) (q := 87) rfl rfl (by decide +kernel) ?_
  refine B_if_ne (off := 19) (t := 106) (q := 90) c1 (by decide) rfl (by decide +kernel) ?_ ?_
  · exact fun g9 => (PW_sub (ls' := [(2, 110)]) ⟨Or.inr rfl, trivial⟩ (h1 g9))
  · exact fun g9 => (PW_sub (ls' := [(2, 110), (0, x1), (0, x2), (0, x3)]) ⟨Or.inr rfl, Or.inr rfl, Or.inr rfl, Or.inr rfl, trivial⟩ (h2 g9))
theorem S_X7_takePlace_90 {X : CX} {d : Nat} {x1 x2 x3 : Int} {I R : PF} {Q : PV → PF → PF → Prop} (c1 : -2147483648 ≤ x1 ∧ x1 < 2147483648) (h1 : x1 = 0 → PN X d mX7_takePlace 124 [(9, 0), (9, 0), (0, x2), (0, x3)] [] I R Q) (h2 : x1 ≠ 0 → PN X d mX7_takePlace 94 [(2, 110), (9, 0), (0, x2), (0, x3)] [] I R Q) : PN X d mX7_takePlace 90 [(2, 110), (0, x1), (0, x2), (0, x3)] [] I R Q := by
  refine P_iload_n (n := 1) (q := 91) rfl rfl (by decide +kernel) ?_
  refine B_if_eq (off := 33) (t := 124) (q := 94) c1 (by decide) rfl (by decide +kernel) ?_ ?_
  · exact fun g9 => (PW_sub (ls' := [(9, 0), (9, 0), (0, x2), (0, x3)]) ⟨Or.inl rfl, Or.inl rfl, Or.inr rfl, Or.inr rfl, trivial⟩ (h1 g9))
  · exact fun g9 => (PW_sub (ls' := [(2, 110), (9, 0), (0, x2), (0, x3)]) ⟨Or.inr rfl, Or.inl rfl, Or.inr rfl, Or.inr rfl, trivial⟩ (h2 g9))
theorem S_X7_takePlace_94 {X : CX} {d d1 : Nat} {x2 x3 t1 : Int} {I R : PF} {Q Q1 : PV → PF → PF → Prop} (r1 : R 110 2 = t1) (e1 : d1 + 1 ≤ d) (hc : CN X d1 mX6_hasTowerAt [(2, t1), (0, x2), (0, x3)] I R Q1) (k1 : kd MF t1 = 6) (h : ∀ z I2 R2, Q1 (0, z) I2 R2 → PN X d mX7_takePlace 103 [(2, 110), (9, 0), (0, x2), (0, x3)] [(0, z)] I2 R2 Q) : PN X d mX7_takePlace 94 [(2, 110), (9, 0), (0, x2), (0, x3)] [] I R Q := by
  refine P_aload_n (n := 0) (q := 95) rfl rfl (by decide +kernel) ?_
  refine B_getfR (q := 98) fX7_19 kM110 r1 rfl (by decide +kernel) ?_
  refine P_iload_n (n := 2) (q := 99) rfl rfl (by decide +kernel) ?_
  refine P_iload_n (n := 3) (q := 100) rfl rfl (by decide +kernel) ?_
  refine P_invV (As := [(0, x2), (0, x3)]) (q := 103) oX6_hasTowerAt rfl k1 kX7_235 e1 hMF (Nat.le_of_ble_eq_true rfl) hc rfl (by decide +kernel) (fun z I2 R2 hq => ?_)
  exact (PW_sub (ls' := [(2, 110), (9, 0), (0, x2), (0, x3)]) ⟨Or.inr rfl, Or.inl rfl, Or.inr rfl, Or.inr rfl, trivial⟩ (h z I2 R2 hq))
theorem S_X7_takePlace_103 {X : CX} {d : Nat} {x2 x3 o0 : Int} {I R : PF} {Q : PV → PF → PF → Prop} (c1 : -2147483648 ≤ o0 ∧ o0 < 2147483648) (h1 : o0 = 0 → PN X d mX7_takePlace 124 [(9, 0), (9, 0), (0, x2), (0, x3)] [] I R Q) (h2 : o0 ≠ 0 → PN X d mX7_takePlace 106 [(2, 110)] [] I R Q) : PN X d mX7_takePlace 103 [(2, 110), (9, 0), (0, x2), (0, x3)] [(0, o0)] I R Q := by
  refine B_if_eq (off := 21) (t := 124) (q := 106) c1 (by decide) rfl (by decide +kernel) ?_ ?_
  · exact fun g9 => (PW_sub (ls' := [(9, 0), (9, 0), (0, x2), (0, x3)]) ⟨Or.inl rfl, Or.inl rfl, Or.inr rfl, Or.inr rfl, trivial⟩ (h1 g9))
  · exact fun g9 => (PW_sub (ls' := [(2, 110)]) ⟨Or.inr rfl, trivial⟩ (h2 g9))
theorem S_X7_takePlace_106 {X : CX} {d d1 : Nat} {I R : PF} {Q Q1 : PV → PF → PF → Prop} (hs : Shp R) (e1 : d1 + 1 ≤ d) (hc : CN X d1 mX5_refuse [(2, 67), (0, 2), (0, (I 67 7))] I R Q1) (h : ∀ z I2 R2, Q1 (0, z) I2 R2 → PN X d mX7_takePlace 121 [] [(0, z)] I2 R2 Q) : PN X d mX7_takePlace 106 [(2, 110)] [] I R Q := by
  refine P_aload_n (n := 0) (q := 107) rfl rfl (by decide +kernel) ?_
  refine B_getfR (q := 110) fX7_9 kM110 (rM110_0 hs) rfl (by decide +kernel) ?_
  refine P_iconst (n := 2) (q := 111) rfl (by decide +kernel) ?_
  refine P_aload_n (n := 0) (q := 112) rfl rfl (by decide +kernel) ?_
  refine B_getfR (q := 115) fX7_9 kM110 (rM110_0 hs) rfl (by decide +kernel) ?_
  refine P_getf (q := 118) fX7_178 kM67 rfl (by decide +kernel) ?_
  refine P_invV (As := [(0, 2), (0, (I 67 7))]) (q := 121) oX5_refuse rfl kM67 kX7_48 e1 hMF (Nat.le_of_ble_eq_true rfl) hc rfl (by decide +kernel) (fun z I2 R2 hq => ?_)
  exact (PW_sub (ls' := []) trivial (h z I2 R2 hq))
theorem S_X7_takePlace_121 {X : CX} {d : Nat} {o0 : Int} {I R : PF} {Q : PV → PF → PF → Prop} (h : Q (0, (-1)) I R) : PN X d mX7_takePlace 121 [] [(0, o0)] I R Q := by
  refine P_pop (q := 122) (Nat.ne_of_beq_eq_false rfl) rfl (by decide +kernel) ?_
  refine P_iconst (n := (-1)) (q := 123) rfl (by decide +kernel) ?_
  refine P_iret rfl (by decide +kernel) h
theorem S_X7_takePlace_124 {X : CX} {d : Nat} {x2 x3 : Int} {I R : PF} {Q : PV → PF → PF → Prop} (h : Q (0, ((9 * x3) + x2)) I R) : PN X d mX7_takePlace 124 [(9, 0), (9, 0), (0, x2), (0, x3)] [] I R Q := by
  refine P_bipush (n := 9) (q := 126) rfl rfl (by decide +kernel) ?_
  refine P_iload_n (n := 3) (q := 127) rfl rfl (by decide +kernel) ?_
  refine P_imul (q := 128) rfl (by decide +kernel) ?_
  refine P_iload_n (n := 2) (q := 129) rfl rfl (by decide +kernel) ?_
  refine P_iadd (q := 130) rfl (by decide +kernel) ?_
  refine P_iret rfl (by decide +kernel) h
theorem S_X8_clear_0 {X : CX} {d : Nat} {a0 : Int} {I R : PF} {Q : PV → PF → PF → Prop} (k1 : kd MF a0 = 8) (h : Q (9, 0) (u2 (u2 (u2 (u2 I a0 0 0) a0 1 (-1)) a0 2 0) a0 3 0) R) : PN X d mX8_clear 0 [(2, a0)] [] I R Q := by
  refine P_aload_n (n := 0) (q := 1) rfl rfl (by decide +kernel) ?_
  refine P_iconst (n := 0) (q := 2) rfl (by decide +kernel) ?_
  refine P_putI (q := 5) wX8_9 (fun h => by cases h) k1 rfl (by decide +kernel) ?_
  refine P_aload_n (n := 0) (q := 6) rfl rfl (by decide +kernel) ?_
  refine P_iconst (n := (-1)) (q := 7) rfl (by decide +kernel) ?_
  refine P_putI (q := 10) wX8_15 (fun h => by cases h) k1 rfl (by decide +kernel) ?_
  refine P_aload_n (n := 0) (q := 11) rfl rfl (by decide +kernel) ?_
  refine P_iconst (n := 0) (q := 12) rfl (by decide +kernel) ?_
  refine P_putI (q := 15) wX8_18 (fun h => by cases h) k1 rfl (by decide +kernel) ?_
  refine P_aload_n (n := 0) (q := 16) rfl rfl (by decide +kernel) ?_
  refine P_iconst (n := 0) (q := 17) rfl (by decide +kernel) ?_
  refine P_putI (q := 20) wX8_21 (fun h => by cases h) k1 rfl (by decide +kernel) ?_
  refine P_vret rfl (by decide +kernel) h
theorem S_X8_copyFrom_0 {X : CX} {d : Nat} {a0 a1 : Int} {I R : PF} {Q : PV → PF → PF → Prop} (k1 : kd MF a1 = 8) (k2 : kd MF a0 = 8) (h : PN X d mX8_copyFrom 34 [(2, a0), (2, a1), (0, 0)] [] (u2 (u2 (u2 (u2 I a0 0 (I a1 0)) a0 1 ((u2 I a0 0 (I a1 0)) a1 1)) a0 2 ((u2 (u2 I a0 0 (I a1 0)) a0 1 ((u2 I a0 0 (I a1 0)) a1 1)) a1 2)) a0 3 ((u2 (u2 (u2 I a0 0 (I a1 0)) a0 1 ((u2 I a0 0 (I a1 0)) a1 1)) a0 2 ((u2 (u2 I a0 0 (I a1 0)) a0 1 ((u2 I a0 0 (I a1 0)) a1 1)) a1 2)) a1 3)) R Q) : PN X d mX8_copyFrom 0 [(2, a0), (2, a1)] [] I R Q := by
  refine P_aload_n (n := 0) (q := 1) rfl rfl (by decide +kernel) ?_
  refine P_aload_n (n := 1) (q := 2) rfl rfl (by decide +kernel) ?_
  refine P_getf (q := 5) fX8_9 k1 rfl (by decide +kernel) ?_
  refine P_putI (q := 8) wX8_9 (fun h => by cases h) k2 rfl (by decide +kernel) ?_
  refine P_aload_n (n := 0) (q := 9) rfl rfl (by decide +kernel) ?_
  refine P_aload_n (n := 1) (q := 10) rfl rfl (by decide +kernel) ?_
  refine P_getf (q := 13) fX8_15 k1 rfl (by decide +kernel) ?_
  refine P_putI (q := 16) wX8_15 (fun h => by cases h) k2 rfl (by decide +kernel) ?_
  refine P_aload_n (n := 0) (q := 17) rfl rfl (by decide +kernel) ?_
  refine P_aload_n (n := 1) (q := 18) rfl rfl (by decide +kernel) ?_
  refine P_getf (q := 21) fX8_18 k1 rfl (by decide +kernel) ?_
  refine P_putI (q := 24) wX8_18 (fun h => by cases h) k2 rfl (by decide +kernel) ?_
  refine P_aload_n (n := 0) (q := 25) rfl rfl (by decide +kernel) ?_
  refine P_aload_n (n := 1) (q := 26) rfl rfl (by decide +kernel) ?_
  refine P_getf (q := 29) fX8_21 k1 rfl (by decide +kernel) ?_
  refine P_putI (q := 32) wX8_21 (fun h => by cases h) k2 rfl (by decide +kernel) ?_
  refine P_iconst (n := 0) (q := 33) rfl (by decide +kernel) ?_
  refine P_istore_n (n := 2) (by decide) (q := 34) rfl (by decide +kernel) ?_
  exact h
theorem S_X8_copyFrom_34 {X : CX} {d : Nat} {a0 a1 x2 : Int} {I R : PF} {Q : PV → PF → PF → Prop} (k1 : kd MF a0 = 8) (c1 : -2147483648 ≤ x2 ∧ x2 < 2147483648) (c2 : -2147483648 ≤ (I a0 3) ∧ (I a0 3) < 2147483648) (h1 : (I a0 3) ≤ x2 → PN X d mX8_copyFrom 67 [] [] I R Q) (h2 : x2 < (I a0 3) → PN X d mX8_copyFrom 42 [(2, a0), (2, a1), (0, x2)] [] I R Q) : PN X d mX8_copyFrom 34 [(2, a0), (2, a1), (0, x2)] [] I R Q := by
  refine P_iload_n (n := 2) (q := 35) rfl rfl (by decide +kernel) ?_
  refine P_aload_n (n := 0) (q := 36) rfl rfl (by decide +kernel) ?_
  refine P_getf (q := 39) fX8_21 k1 rfl (by decide +kernel) ?_
  refine B_icmp_ge (off := 28) (t := 67) (q := 42) c1 c2 (by decide) rfl (by decide +kernel) ?_ ?_
  · exact fun g9 => (PW_sub (ls' := []) trivial (h1 g9))
  · exact fun g9 => (h2 g9)
theorem S_X8_copyFrom_42 {X : CX} {d : Nat} {a0 a1 x2 : Int} {I R : PF} {Q : PV → PF → PF → Prop} (hs : Shp R) (k1 : kd MF a1 = 8) (b1 : (0 : Int) ≤ x2 ∧ x2 < 6) (k2 : kd MF a0 = 8) (b2 : 0 ≤ (0 : Int) ∧ 0 ≤ (0 : Int) ∧ 0 ≤ (8 : Int) ∧ (0 : Int) + (8 : Int) ≤ 8 ∧ (0 : Int) + (8 : Int) ≤ 8) (e1 : 1 ≤ d) (h : PN X d mX8_copyFrom 34 [(2, a0), (2, a1), (0, (x2 + 1))] [] (fun x j => if x = (a0 + 2 + x2) ∧ 0 ≤ j ∧ j < 0 + 8 then I (a1 + 2 + x2) (0 + (j - 0)) else I x j) R Q) : PN X d mX8_copyFrom 42 [(2, a0), (2, a1), (0, x2)] [] I R Q := by
  refine P_aload_n (n := 1) (q := 43) rfl rfl (by decide +kernel) ?_
  refine B_getfR (q := 46) fX8_26 k1 (sh8_4 hs k1) rfl (by decide +kernel) ?_
  refine P_iload_n (n := 2) (q := 47) rfl rfl (by decide +kernel) ?_
  refine B_aaloadI (q := 48) (st1 k1) (st1n k1) (by decide) b1 (sh8_r hs k1 b1.1 b1.2) rfl (by decide +kernel) ?_
  refine P_iconst (n := 0) (q := 49) rfl (by decide +kernel) ?_
  refine P_aload_n (n := 0) (q := 50) rfl rfl (by decide +kernel) ?_
  refine B_getfR (q := 53) fX8_26 k2 (sh8_4 hs k2) rfl (by decide +kernel) ?_
  refine P_iload_n (n := 2) (q := 54) rfl rfl (by decide +kernel) ?_
  refine B_aaloadI (q := 55) (st1 k2) (st1n k2) (by decide) b1 (sh8_r hs k2 b1.1 b1.2) rfl (by decide +kernel) ?_
  refine P_iconst (n := 0) (q := 56) rfl (by decide +kernel) ?_
  refine P_bipush (n := 8) (q := 58) rfl rfl (by decide +kernel) ?_
  refine B_copy (q := 61) (stR k1 b1.1 b1.2).1 (stR k2 b1.1 b1.2).1 (stR k1 b1.1 b1.2).2 (stR k2 b1.1 b1.2).2 (by decide) (by decide) b2 (tGp4 4 rfl rfl) (tGp4 6 rfl rfl) (tGp4 5 rfl rfl) (tGp1 16 rfl rfl) e1 (Nat.le_of_ble_eq_true rfl) rfl (by decide +kernel) ?_
  refine P_iinc (n := 2) (a := 1) (by decide) rfl (q := 64) rfl (by decide +kernel) ?_
  refine P_goto (off := (-30)) (t := 34) (by decide) (by decide +kernel) ?_
  exact h
theorem S_X8_copyFrom_67 {X : CX} {d : Nat} {I R : PF} {Q : PV → PF → PF → Prop} (h : Q (9, 0) I R) : PN X d mX8_copyFrom 67 [] [] I R Q := by
  refine P_vret rfl (by decide +kernel) h
theorem S_X8_forceNow_0 {X : CX} {d d1 : Nat} {a0 : Int} {I R : PF} {Q Q1 : PV → PF → PF → Prop} (k1 : kd MF a0 = 8) (e1 : d1 + 1 ≤ d) (hc : CN X d1 mX8_knows [(2, a0), (0, (I a0 1))] I R Q1) (h : ∀ z I2 R2, Q1 (0, z) I2 R2 → PN X d mX8_forceNow 8 [(2, a0)] [(0, z)] I2 R2 Q) : PN X d mX8_forceNow 0 [(2, a0)] [] I R Q := by
  refine P_aload_n (n := 0) (q := 1) rfl rfl (by decide +kernel) ?_
  refine P_aload_n (n := 0) (q := 2) rfl rfl (by decide +kernel) ?_
  refine P_getf (q := 5) fX8_15 k1 rfl (by decide +kernel) ?_
  refine P_invV (As := [(0, (I a0 1))]) (q := 8) oX8_knows rfl k1 kX8_39 e1 hMF (Nat.le_of_ble_eq_true rfl) hc rfl (by decide +kernel) (fun z I2 R2 hq => ?_)
  exact (h z I2 R2 hq)
theorem S_X8_forceNow_8 {X : CX} {d : Nat} {a0 o0 : Int} {I R : PF} {Q : PV → PF → PF → Prop} (c1 : -2147483648 ≤ o0 ∧ o0 < 2147483648) (h1 : o0 = 0 → PN X d mX8_forceNow 26 [] [] I R Q) (h2 : o0 ≠ 0 → PN X d mX8_forceNow 11 [(2, a0)] [] I R Q) : PN X d mX8_forceNow 8 [(2, a0)] [(0, o0)] I R Q := by
  refine B_if_eq (off := 18) (t := 26) (q := 11) c1 (by decide) rfl (by decide +kernel) ?_ ?_
  · exact fun g9 => (PW_sub (ls' := []) trivial (h1 g9))
  · exact fun g9 => (h2 g9)
theorem S_X8_forceNow_11 {X : CX} {d : Nat} {a0 : Int} {I R : PF} {Q : PV → PF → PF → Prop} (hs : Shp R) (k1 : kd MF a0 = 8) (b1 : (0 : Int) ≤ (I a0 1) ∧ (I a0 1) < 6) (h : PN X d mX8_forceNow 27 [] [(0, (I (a0 + 2 + (I a0 1)) 6))] I R Q) : PN X d mX8_forceNow 11 [(2, a0)] [] I R Q := by
  refine P_aload_n (n := 0) (q := 12) rfl rfl (by decide +kernel) ?_
  refine B_getfR (q := 15) fX8_26 k1 (sh8_4 hs k1) rfl (by decide +kernel) ?_
  refine P_aload_n (n := 0) (q := 16) rfl rfl (by decide +kernel) ?_
  refine P_getf (q := 19) fX8_15 k1 rfl (by decide +kernel) ?_
  refine B_aaloadI (q := 20) (st1 k1) (st1n k1) (by decide) b1 (sh8_r hs k1 b1.1 b1.2) rfl (by decide +kernel) ?_
  refine P_bipush (n := 6) (q := 22) rfl rfl (by decide +kernel) ?_
  refine B_iaload (q := 23) (stR k1 b1.1 b1.2).1 (stR k1 b1.1 b1.2).2 (by decide) ⟨by decide, by decide⟩ rfl (by decide +kernel) ?_
  refine P_goto (off := 4) (t := 27) (by decide) (by decide +kernel) ?_
  exact (PW_sub (ls' := []) trivial h)
theorem S_X8_forceNow_26 {X : CX} {d : Nat} {I R : PF} {Q : PV → PF → PF → Prop} (h : PN X d mX8_forceNow 27 [] [(0, 0)] I R Q) : PN X d mX8_forceNow 26 [] [] I R Q := by
  refine P_iconst (n := 0) (q := 27) rfl (by decide +kernel) ?_
  exact (PW_sub (ls' := []) trivial h)
theorem S_X8_forceNow_27 {X : CX} {d : Nat} {o0 : Int} {I R : PF} {Q : PV → PF → PF → Prop} (h : Q (0, o0) I R) : PN X d mX8_forceNow 27 [] [(0, o0)] I R Q := by
  refine P_iret rfl (by decide +kernel) h
theorem S_X8_knows_0 {X : CX} {d : Nat} {a0 x1 : Int} {I R : PF} {Q : PV → PF → PF → Prop} (c1 : -2147483648 ≤ x1 ∧ x1 < 2147483648) (h1 : x1 < 0 → PN X d mX8_knows 16 [] [] I R Q) (h2 : 0 ≤ x1 → PN X d mX8_knows 4 [(2, a0), (0, x1)] [] I R Q) : PN X d mX8_knows 0 [(2, a0), (0, x1)] [] I R Q := by
  refine P_iload_n (n := 1) (q := 1) rfl rfl (by decide +kernel) ?_
  refine B_if_lt (off := 15) (t := 16) (q := 4) c1 (by decide) rfl (by decide +kernel) ?_ ?_
  · exact fun g9 => (PW_sub (ls' := []) trivial (h1 g9))
  · exact fun g9 => (h2 g9)
theorem S_X8_knows_4 {X : CX} {d : Nat} {a0 x1 : Int} {I R : PF} {Q : PV → PF → PF → Prop} (k1 : kd MF a0 = 8) (c1 : -2147483648 ≤ x1 ∧ x1 < 2147483648) (c2 : -2147483648 ≤ (I a0 3) ∧ (I a0 3) < 2147483648) (h1 : (I a0 3) ≤ x1 → PN X d mX8_knows 16 [] [] I R Q) (h2 : x1 < (I a0 3) → PN X d mX8_knows 12 [] [] I R Q) : PN X d mX8_knows 4 [(2, a0), (0, x1)] [] I R Q := by
  refine P_iload_n (n := 1) (q := 5) rfl rfl (by decide +kernel) ?_
  refine P_aload_n (n := 0) (q := 6) rfl rfl (by decide +kernel) ?_
  refine P_getf (q := 9) fX8_21 k1 rfl (by decide +kernel) ?_
  refine B_icmp_ge (off := 7) (t := 16) (q := 12) c1 c2 (by decide) rfl (by decide +kernel) ?_ ?_
  · exact fun g9 => (PW_sub (ls' := []) trivial (h1 g9))
  · exact fun g9 => (PW_sub (ls' := []) trivial (h2 g9))
theorem S_X8_knows_12 {X : CX} {d : Nat} {I R : PF} {Q : PV → PF → PF → Prop} (h : PN X d mX8_knows 17 [] [(0, 1)] I R Q) : PN X d mX8_knows 12 [] [] I R Q := by
  refine P_iconst (n := 1) (q := 13) rfl (by decide +kernel) ?_
  refine P_goto (off := 4) (t := 17) (by decide) (by decide +kernel) ?_
  exact (PW_sub (ls' := []) trivial h)
theorem S_X8_knows_16 {X : CX} {d : Nat} {I R : PF} {Q : PV → PF → PF → Prop} (h : PN X d mX8_knows 17 [] [(0, 0)] I R Q) : PN X d mX8_knows 16 [] [] I R Q := by
  refine P_iconst (n := 0) (q := 17) rfl (by decide +kernel) ?_
  exact (PW_sub (ls' := []) trivial h)
theorem S_X8_knows_17 {X : CX} {d : Nat} {o0 : Int} {I R : PF} {Q : PV → PF → PF → Prop} (z1 : o0 = 0 ∨ o0 = 1) (h : Q (0, o0) I R) : PN X d mX8_knows 17 [] [(0, o0)] I R Q := by
  refine P_zret rfl z1 (by decide +kernel) h
theorem S_X8_lawInForce_0 {X : CX} {d d1 : Nat} {a0 : Int} {I R : PF} {Q Q1 : PV → PF → PF → Prop} (k1 : kd MF a0 = 8) (e1 : d1 + 1 ≤ d) (hc : CN X d1 mX8_lawOf [(2, a0), (0, (I a0 1))] I R Q1) (h : ∀ z I2 R2, Q1 (0, z) I2 R2 → PN X d mX8_lawInForce 8 [] [(0, z)] I2 R2 Q) : PN X d mX8_lawInForce 0 [(2, a0)] [] I R Q := by
  refine P_aload_n (n := 0) (q := 1) rfl rfl (by decide +kernel) ?_
  refine P_aload_n (n := 0) (q := 2) rfl rfl (by decide +kernel) ?_
  refine P_getf (q := 5) fX8_15 k1 rfl (by decide +kernel) ?_
  refine P_invV (As := [(0, (I a0 1))]) (q := 8) oX8_lawOf rfl k1 kX8_43 e1 hMF (Nat.le_of_ble_eq_true rfl) hc rfl (by decide +kernel) (fun z I2 R2 hq => ?_)
  exact (PW_sub (ls' := []) trivial (h z I2 R2 hq))
theorem S_X8_lawInForce_8 {X : CX} {d : Nat} {o0 : Int} {I R : PF} {Q : PV → PF → PF → Prop} (h : Q (0, o0) I R) : PN X d mX8_lawInForce 8 [] [(0, o0)] I R Q := by
  refine P_iret rfl (by decide +kernel) h
theorem S_X8_lawOf_0 {X : CX} {d d1 : Nat} {a0 x1 : Int} {I R : PF} {Q Q1 : PV → PF → PF → Prop} (e1 : d1 + 1 ≤ d) (hc : CN X d1 mX8_knows [(2, a0), (0, x1)] I R Q1) (k1 : kd MF a0 = 8) (h : ∀ z I2 R2, Q1 (0, z) I2 R2 → PN X d mX8_lawOf 5 [(2, a0), (0, x1)] [(0, z)] I2 R2 Q) : PN X d mX8_lawOf 0 [(2, a0), (0, x1)] [] I R Q := by
  refine P_aload_n (n := 0) (q := 1) rfl rfl (by decide +kernel) ?_
  refine P_iload_n (n := 1) (q := 2) rfl rfl (by decide +kernel) ?_
  refine P_invV (As := [(0, x1)]) (q := 5) oX8_knows rfl k1 kX8_39 e1 hMF (Nat.le_of_ble_eq_true rfl) hc rfl (by decide +kernel) (fun z I2 R2 hq => ?_)
  exact (h z I2 R2 hq)
theorem S_X8_lawOf_5 {X : CX} {d : Nat} {a0 x1 o0 : Int} {I R : PF} {Q : PV → PF → PF → Prop} (c1 : -2147483648 ≤ o0 ∧ o0 < 2147483648) (h1 : o0 = 0 → PN X d mX8_lawOf 19 [] [] I R Q) (h2 : o0 ≠ 0 → PN X d mX8_lawOf 8 [(2, a0), (0, x1)] [] I R Q) : PN X d mX8_lawOf 5 [(2, a0), (0, x1)] [(0, o0)] I R Q := by
  refine B_if_eq (off := 14) (t := 19) (q := 8) c1 (by decide) rfl (by decide +kernel) ?_ ?_
  · exact fun g9 => (PW_sub (ls' := []) trivial (h1 g9))
  · exact fun g9 => (h2 g9)
theorem S_X8_lawOf_8 {X : CX} {d : Nat} {a0 x1 : Int} {I R : PF} {Q : PV → PF → PF → Prop} (hs : Shp R) (k1 : kd MF a0 = 8) (b1 : (0 : Int) ≤ x1 ∧ x1 < 6) (h : PN X d mX8_lawOf 20 [] [(0, (I (a0 + 2 + x1) 4))] I R Q) : PN X d mX8_lawOf 8 [(2, a0), (0, x1)] [] I R Q := by
  refine P_aload_n (n := 0) (q := 9) rfl rfl (by decide +kernel) ?_
  refine B_getfR (q := 12) fX8_26 k1 (sh8_4 hs k1) rfl (by decide +kernel) ?_
  refine P_iload_n (n := 1) (q := 13) rfl rfl (by decide +kernel) ?_
  refine B_aaloadI (q := 14) (st1 k1) (st1n k1) (by decide) b1 (sh8_r hs k1 b1.1 b1.2) rfl (by decide +kernel) ?_
  refine P_iconst (n := 4) (q := 15) rfl (by decide +kernel) ?_
  refine B_iaload (q := 16) (stR k1 b1.1 b1.2).1 (stR k1 b1.1 b1.2).2 (by decide) ⟨by decide, by decide⟩ rfl (by decide +kernel) ?_
  refine P_goto (off := 4) (t := 20) (by decide) (by decide +kernel) ?_
  exact (PW_sub (ls' := []) trivial h)
theorem S_X8_lawOf_19 {X : CX} {d : Nat} {I R : PF} {Q : PV → PF → PF → Prop} (h : PN X d mX8_lawOf 20 [] [(0, (-1))] I R Q) : PN X d mX8_lawOf 19 [] [] I R Q := by
  refine P_iconst (n := (-1)) (q := 20) rfl (by decide +kernel) ?_
  exact (PW_sub (ls' := []) trivial h)
theorem S_X8_lawOf_20 {X : CX} {d : Nat} {o0 : Int} {I R : PF} {Q : PV → PF → PF → Prop} (h : Q (0, o0) I R) : PN X d mX8_lawOf 20 [] [(0, o0)] I R Q := by
  refine P_iret rfl (by decide +kernel) h
theorem S_X8_put_0 {X : CX} {d : Nat} {a0 x1 x2 x3 : Int} {I R : PF} {Q : PV → PF → PF → Prop} (hs : Shp R) (k1 : kd MF a0 = 8) (b1 : (0 : Int) ≤ x1 ∧ x1 < 6) (h : Q (9, 0) (u2 (u2 I (a0 + 2 + x1) 0 x2) (a0 + 2 + x1) 1 x3) R) : PN X d mX8_put 0 [(2, a0), (0, x1), (0, x2), (0, x3)] [] I R Q := by
  refine P_aload_n (n := 0) (q := 1) rfl rfl (by decide +kernel) ?_
  refine B_getfR (q := 4) fX8_26 k1 (sh8_4 hs k1) rfl (by decide +kernel) ?_
  refine P_iload_n (n := 1) (q := 5) rfl rfl (by decide +kernel) ?_
  refine B_aaloadI (q := 6) (st1 k1) (st1n k1) (by decide) b1 (sh8_r hs k1 b1.1 b1.2) rfl (by decide +kernel) ?_
  refine P_iconst (n := 0) (q := 7) rfl (by decide +kernel) ?_
  refine P_iload_n (n := 2) (q := 8) rfl rfl (by decide +kernel) ?_
  refine B_iastore (q := 9) (stR k1 b1.1 b1.2).1 (stR k1 b1.1 b1.2).2 (by decide) ⟨by decide, by decide⟩ rfl (by decide +kernel) ?_
  refine P_aload_n (n := 0) (q := 10) rfl rfl (by decide +kernel) ?_
  refine B_getfR (q := 13) fX8_26 k1 (sh8_4 hs k1) rfl (by decide +kernel) ?_
  refine P_iload_n (n := 1) (q := 14) rfl rfl (by decide +kernel) ?_
  refine B_aaloadI (q := 15) (st1 k1) (st1n k1) (by decide) b1 (sh8_r hs k1 b1.1 b1.2) rfl (by decide +kernel) ?_
  refine P_iconst (n := 1) (q := 16) rfl (by decide +kernel) ?_
  refine P_iload_n (n := 3) (q := 17) rfl rfl (by decide +kernel) ?_
  refine B_iastore (q := 18) (stR k1 b1.1 b1.2).1 (stR k1 b1.1 b1.2).2 (by decide) ⟨by decide, by decide⟩ rfl (by decide +kernel) ?_
  refine P_vret rfl (by decide +kernel) h
theorem S_X8_standsAt_0 {X : CX} {d : Nat} {a0 x1 x2 x3 : Int} {I R : PF} {Q : PV → PF → PF → Prop} (hs : Shp R) (k1 : kd MF a0 = 8) (b1 : (0 : Int) ≤ x1 ∧ x1 < 6) (c1 : -2147483648 ≤ (I (a0 + 2 + x1) 0) ∧ (I (a0 + 2 + x1) 0) < 2147483648) (c2 : -2147483648 ≤ x2 ∧ x2 < 2147483648) (h1 : (I (a0 + 2 + x1) 0) ≠ x2 → PN X d mX8_standsAt 28 [] [] I R Q) (h2 : (I (a0 + 2 + x1) 0) = x2 → PN X d mX8_standsAt 12 [(2, a0), (0, x1), (9, 0), (0, x3)] [] I R Q) : PN X d mX8_standsAt 0 [(2, a0), (0, x1), (0, x2), (0, x3)] [] I R Q := by
  refine P_aload_n (n := 0) (q := 1) rfl rfl (by decide +kernel) ?_
  refine B_getfR (q := 4) fX8_26 k1 (sh8_4 hs k1) rfl (by decide +kernel) ?_
  refine P_iload_n (n := 1) (q := 5) rfl rfl (by decide +kernel) ?_
  refine B_aaloadI (q := 6) (st1 k1) (st1n k1) (by decide) b1 (sh8_r hs k1 b1.1 b1.2) rfl (by decide +kernel) ?_
  refine P_iconst (n := 0) (q := 7) rfl (by decide +kernel) ?_
  refine B_iaload (q := 8) (stR k1 b1.1 b1.2).1 (stR k1 b1.1 b1.2).2 (by decide) ⟨by decide, by decide⟩ rfl (by decide +kernel) ?_
  refine P_iload_n (n := 2) (q := 9) rfl rfl (by decide +kernel) ?_
  refine B_icmp_ne (off := 19) (t := 28) (q := 12) c1 c2 (by decide) rfl (by decide +kernel) ?_ ?_
  · exact fun g9 => (PW_sub (ls' := []) trivial (h1 g9))
  · exact fun g9 => (PW_sub (ls' := [(2, a0), (0, x1), (9, 0), (0, x3)]) ⟨Or.inr rfl, Or.inr rfl, Or.inl rfl, Or.inr rfl, trivial⟩ (h2 g9))
theorem S_X8_standsAt_12 {X : CX} {d : Nat} {a0 x1 x3 : Int} {I R : PF} {Q : PV → PF → PF → Prop} (hs : Shp R) (k1 : kd MF a0 = 8) (b1 : (0 : Int) ≤ x1 ∧ x1 < 6) (c1 : -2147483648 ≤ (I (a0 + 2 + x1) 1) ∧ (I (a0 + 2 + x1) 1) < 2147483648) (c2 : -2147483648 ≤ x3 ∧ x3 < 2147483648) (h1 : (I (a0 + 2 + x1) 1) ≠ x3 → PN X d mX8_standsAt 28 [] [] I R Q) (h2 : (I (a0 + 2 + x1) 1) = x3 → PN X d mX8_standsAt 24 [] [] I R Q) : PN X d mX8_standsAt 12 [(2, a0), (0, x1), (9, 0), (0, x3)] [] I R Q := by
  refine P_aload_n (n := 0) (q := 13) rfl rfl (by decide +kernel) ?_
  refine B_getfR (q := 16) fX8_26 k1 (sh8_4 hs k1) rfl (by decide +kernel) ?_
  refine P_iload_n (n := 1) (q := 17) rfl rfl (by decide +kernel) ?_
  refine B_aaloadI (q := 18) (st1 k1) (st1n k1) (by decide) b1 (sh8_r hs k1 b1.1 b1.2) rfl (by decide +kernel) ?_
  refine P_iconst (n := 1) (q := 19) rfl (by decide +kernel) ?_
  refine B_iaload (q := 20) (stR k1 b1.1 b1.2).1 (stR k1 b1.1 b1.2).2 (by decide) ⟨by decide, by decide⟩ rfl (by decide +kernel) ?_
  refine P_iload_n (n := 3) (q := 21) rfl rfl (by decide +kernel) ?_
  refine B_icmp_ne (off := 7) (t := 28) (q := 24) c1 c2 (by decide) rfl (by decide +kernel) ?_ ?_
  · exact fun g9 => (PW_sub (ls' := []) trivial (h1 g9))
  · exact fun g9 => (PW_sub (ls' := []) trivial (h2 g9))
theorem S_X8_standsAt_24 {X : CX} {d : Nat} {I R : PF} {Q : PV → PF → PF → Prop} (h : PN X d mX8_standsAt 29 [] [(0, 1)] I R Q) : PN X d mX8_standsAt 24 [] [] I R Q := by
  refine P_iconst (n := 1) (q := 25) rfl (by decide +kernel) ?_
  refine P_goto (off := 4) (t := 29) (by decide) (by decide +kernel) ?_
  exact (PW_sub (ls' := []) trivial h)
theorem S_X8_standsAt_28 {X : CX} {d : Nat} {I R : PF} {Q : PV → PF → PF → Prop} (h : PN X d mX8_standsAt 29 [] [(0, 0)] I R Q) : PN X d mX8_standsAt 28 [] [] I R Q := by
  refine P_iconst (n := 0) (q := 29) rfl (by decide +kernel) ?_
  exact (PW_sub (ls' := []) trivial h)
theorem S_X8_standsAt_29 {X : CX} {d : Nat} {o0 : Int} {I R : PF} {Q : PV → PF → PF → Prop} (z1 : o0 = 0 ∨ o0 = 1) (h : Q (0, o0) I R) : PN X d mX8_standsAt 29 [] [(0, o0)] I R Q := by
  refine P_zret rfl z1 (by decide +kernel) h
theorem S_X8_tellFacts_0 {X : CX} {d : Nat} {a0 x1 a2 : Int} {I R : PF} {Q : PV → PF → PF → Prop} (hs : Shp R) (k1 : kd MF a0 = 8) (b1 : (0 : Int) ≤ x1 ∧ x1 < 6) (k2 : kd MF a2 = 12) (b2 : 0 ≤ (0 : Int) ∧ 0 ≤ (0 : Int) ∧ 0 ≤ (8 : Int) ∧ (0 : Int) + (8 : Int) ≤ 8 ∧ (0 : Int) + (8 : Int) ≤ (ln MF a2 : Int)) (n1 : (ln MF a2 : Int) < 2147483648) (e1 : 1 ≤ d) (b3 : (0 : Int) ≤ 8 ∧ 8 < (ln MF a2 : Int)) (c1 : -2147483648 ≤ x1 ∧ x1 < 2147483648) (c2 : -2147483648 ≤ ((u2 (fun x j => if x = a2 ∧ 0 ≤ j ∧ j < 0 + 8 then I (a0 + 2 + x1) (0 + (j - 0)) else I x j) a2 8 x1) a0 1) ∧ ((u2 (fun x j => if x = a2 ∧ 0 ≤ j ∧ j < 0 + 8 then I (a0 + 2 + x1) (0 + (j - 0)) else I x j) a2 8 x1) a0 1) < 2147483648) (h1 : x1 ≠ ((u2 (fun x j => if x = a2 ∧ 0 ≤ j ∧ j < 0 + 8 then I (a0 + 2 + x1) (0 + (j - 0)) else I x j) a2 8 x1) a0 1) → PN X d mX8_tellFacts 37 [] [(0, 9), (2, a2)] (u2 (fun x j => if x = a2 ∧ 0 ≤ j ∧ j < 0 + 8 then I (a0 + 2 + x1) (0 + (j - 0)) else I x j) a2 8 x1) R Q) (h2 : x1 = ((u2 (fun x j => if x = a2 ∧ 0 ≤ j ∧ j < 0 + 8 then I (a0 + 2 + x1) (0 + (j - 0)) else I x j) a2 8 x1) a0 1) → PN X d mX8_tellFacts 30 [(2, a0)] [(0, 9), (2, a2)] (u2 (fun x j => if x = a2 ∧ 0 ≤ j ∧ j < 0 + 8 then I (a0 + 2 + x1) (0 + (j - 0)) else I x j) a2 8 x1) R Q) : PN X d mX8_tellFacts 0 [(2, a0), (0, x1), (2, a2)] [] I R Q := by
  refine P_aload_n (n := 0) (q := 1) rfl rfl (by decide +kernel) ?_
  refine B_getfR (q := 4) fX8_26 k1 (sh8_4 hs k1) rfl (by decide +kernel) ?_
  refine P_iload_n (n := 1) (q := 5) rfl rfl (by decide +kernel) ?_
  refine B_aaloadI (q := 6) (st1 k1) (st1n k1) (by decide) b1 (sh8_r hs k1 b1.1 b1.2) rfl (by decide +kernel) ?_
  refine P_iconst (n := 0) (q := 7) rfl (by decide +kernel) ?_
  refine P_aload_n (n := 2) (q := 8) rfl rfl (by decide +kernel) ?_
  refine P_iconst (n := 0) (q := 9) rfl (by decide +kernel) ?_
  refine P_bipush (n := 8) (q := 11) rfl rfl (by decide +kernel) ?_
  refine B_copy (q := 14) (stR k1 b1.1 b1.2).1 k2 (stR k1 b1.1 b1.2).2 rfl (by decide) n1 b2 (tGp4 4 rfl rfl) (tGp4 6 rfl rfl) (tGp4 5 rfl rfl) (tGp1 16 rfl rfl) e1 (Nat.le_of_ble_eq_true rfl) rfl (by decide +kernel) ?_
  refine P_aload_n (n := 2) (q := 15) rfl rfl (by decide +kernel) ?_
  refine P_bipush (n := 8) (q := 17) rfl rfl (by decide +kernel) ?_
  refine P_iload_n (n := 1) (q := 18) rfl rfl (by decide +kernel) ?_
  refine B_iastore (q := 19) k2 rfl n1 b3 rfl (by decide +kernel) ?_
  refine P_aload_n (n := 2) (q := 20) rfl rfl (by decide +kernel) ?_
  refine P_bipush (n := 9) (q := 22) rfl rfl (by decide +kernel) ?_
  refine P_iload_n (n := 1) (q := 23) rfl rfl (by decide +kernel) ?_
  refine P_aload_n (n := 0) (q := 24) rfl rfl (by decide +kernel) ?_
  refine P_getf (q := 27) fX8_15 k1 rfl (by decide +kernel) ?_
  refine B_icmp_ne (off := 10) (t := 37) (q := 30) c1 c2 (by decide) rfl (by decide +kernel) ?_ ?_
  · exact fun g9 => (PW_sub (ls' := []) trivial (h1 g9))
  · exact fun g9 => (PW_sub (ls' := [(2, a0)]) ⟨Or.inr rfl, trivial⟩ (h2 g9))
theorem S_X8_tellFacts_30 {X : CX} {d : Nat} {a0 s0 o1 : Int} {I R : PF} {Q : PV → PF → PF → Prop} (k1 : kd MF a0 = 8) (h : PN X d mX8_tellFacts 38 [] [(0, (I a0 2)), (0, o1), (2, s0)] I R Q) : PN X d mX8_tellFacts 30 [(2, a0)] [(0, o1), (2, s0)] I R Q := by
  refine P_aload_n (n := 0) (q := 31) rfl rfl (by decide +kernel) ?_
  refine P_getf (q := 34) fX8_18 k1 rfl (by decide +kernel) ?_
  refine P_goto (off := 4) (t := 38) (by decide) (by decide +kernel) ?_
  exact (PW_sub (ls' := []) trivial h)
theorem S_X8_tellFacts_37 {X : CX} {d : Nat} {s0 o1 : Int} {I R : PF} {Q : PV → PF → PF → Prop} (h : PN X d mX8_tellFacts 38 [] [(0, 0), (0, o1), (2, s0)] I R Q) : PN X d mX8_tellFacts 37 [] [(0, o1), (2, s0)] I R Q := by
  refine P_iconst (n := 0) (q := 38) rfl (by decide +kernel) ?_
  exact (PW_sub (ls' := []) trivial h)
theorem S_X8_tellFacts_38 {X : CX} {d : Nat} {s0 o1 o2 : Int} {I R : PF} {Q : PV → PF → PF → Prop} (k1 : kd MF s0 = 12) (b1 : (0 : Int) ≤ o1 ∧ o1 < (ln MF s0 : Int)) (n1 : (ln MF s0 : Int) < 2147483648) (h : Q (9, 0) (u2 I s0 o1 o2) R) : PN X d mX8_tellFacts 38 [] [(0, o2), (0, o1), (2, s0)] I R Q := by
  refine B_iastore (q := 39) k1 rfl n1 b1 rfl (by decide +kernel) ?_
  refine P_vret rfl (by decide +kernel) h
theorem S_X8_throwsSo_0 {X : CX} {d : Nat} {a0 x1 x2 x3 : Int} {I R : PF} {Q : PV → PF → PF → Prop} (hs : Shp R) (k1 : kd MF a0 = 8) (b1 : (0 : Int) ≤ x1 ∧ x1 < 6) (c1 : -2147483648 ≤ (I (a0 + 2 + x1) 5) ∧ (I (a0 + 2 + x1) 5) < 2147483648) (c2 : -2147483648 ≤ x2 ∧ x2 < 2147483648) (h1 : (I (a0 + 2 + x1) 5) ≠ x2 → PN X d mX8_throwsSo 29 [] [] I R Q) (h2 : (I (a0 + 2 + x1) 5) = x2 → PN X d mX8_throwsSo 12 [(2, a0), (0, x1), (9, 0), (0, x3)] [] I R Q) : PN X d mX8_throwsSo 0 [(2, a0), (0, x1), (0, x2), (0, x3)] [] I R Q := by
  refine P_aload_n (n := 0) (q := 1) rfl rfl (by decide +kernel) ?_
  refine B_getfR (q := 4) fX8_26 k1 (sh8_4 hs k1) rfl (by decide +kernel) ?_
  refine P_iload_n (n := 1) (q := 5) rfl rfl (by decide +kernel) ?_
  refine B_aaloadI (q := 6) (st1 k1) (st1n k1) (by decide) b1 (sh8_r hs k1 b1.1 b1.2) rfl (by decide +kernel) ?_
  refine P_iconst (n := 5) (q := 7) rfl (by decide +kernel) ?_
  refine B_iaload (q := 8) (stR k1 b1.1 b1.2).1 (stR k1 b1.1 b1.2).2 (by decide) ⟨by decide, by decide⟩ rfl (by decide +kernel) ?_
  refine P_iload_n (n := 2) (q := 9) rfl rfl (by decide +kernel) ?_
  refine B_icmp_ne (off := 20) (t := 29) (q := 12) c1 c2 (by decide) rfl (by decide +kernel) ?_ ?_
  · exact fun g9 => (PW_sub (ls' := []) trivial (h1 g9))
  · exact fun g9 => (PW_sub (ls' := [(2, a0), (0, x1), (9, 0), (0, x3)]) ⟨Or.inr rfl, Or.inr rfl, Or.inl rfl, Or.inr rfl, trivial⟩ (h2 g9))
theorem S_X8_throwsSo_12 {X : CX} {d : Nat} {a0 x1 x3 : Int} {I R : PF} {Q : PV → PF → PF → Prop} (hs : Shp R) (k1 : kd MF a0 = 8) (b1 : (0 : Int) ≤ x1 ∧ x1 < 6) (c1 : -2147483648 ≤ (I (a0 + 2 + x1) 6) ∧ (I (a0 + 2 + x1) 6) < 2147483648) (c2 : -2147483648 ≤ x3 ∧ x3 < 2147483648) (h1 : (I (a0 + 2 + x1) 6) ≠ x3 → PN X d mX8_throwsSo 29 [] [] I R Q) (h2 : (I (a0 + 2 + x1) 6) = x3 → PN X d mX8_throwsSo 25 [] [] I R Q) : PN X d mX8_throwsSo 12 [(2, a0), (0, x1), (9, 0), (0, x3)] [] I R Q := by
  refine P_aload_n (n := 0) (q := 13) rfl rfl (by decide +kernel) ?_
  refine B_getfR (q := 16) fX8_26 k1 (sh8_4 hs k1) rfl (by decide +kernel) ?_
  refine P_iload_n (n := 1) (q := 17) rfl rfl (by decide +kernel) ?_
  refine B_aaloadI (q := 18) (st1 k1) (st1n k1) (by decide) b1 (sh8_r hs k1 b1.1 b1.2) rfl (by decide +kernel) ?_
  refine P_bipush (n := 6) (q := 20) rfl rfl (by decide +kernel) ?_
  refine B_iaload (q := 21) (stR k1 b1.1 b1.2).1 (stR k1 b1.1 b1.2).2 (by decide) ⟨by decide, by decide⟩ rfl (by decide +kernel) ?_
  refine P_iload_n (n := 3) (q := 22) rfl rfl (by decide +kernel) ?_
  refine B_icmp_ne (off := 7) (t := 29) (q := 25) c1 c2 (by decide) rfl (by decide +kernel) ?_ ?_
  · exact fun g9 => (PW_sub (ls' := []) trivial (h1 g9))
  · exact fun g9 => (PW_sub (ls' := []) trivial (h2 g9))
theorem S_X8_throwsSo_25 {X : CX} {d : Nat} {I R : PF} {Q : PV → PF → PF → Prop} (h : PN X d mX8_throwsSo 30 [] [(0, 1)] I R Q) : PN X d mX8_throwsSo 25 [] [] I R Q := by
  refine P_iconst (n := 1) (q := 26) rfl (by decide +kernel) ?_
  refine P_goto (off := 4) (t := 30) (by decide) (by decide +kernel) ?_
  exact (PW_sub (ls' := []) trivial h)
theorem S_X8_throwsSo_29 {X : CX} {d : Nat} {I R : PF} {Q : PV → PF → PF → Prop} (h : PN X d mX8_throwsSo 30 [] [(0, 0)] I R Q) : PN X d mX8_throwsSo 29 [] [] I R Q := by
  refine P_iconst (n := 0) (q := 30) rfl (by decide +kernel) ?_
  exact (PW_sub (ls' := []) trivial h)
theorem S_X8_throwsSo_30 {X : CX} {d : Nat} {o0 : Int} {I R : PF} {Q : PV → PF → PF → Prop} (z1 : o0 = 0 ∨ o0 = 1) (h : Q (0, o0) I R) : PN X d mX8_throwsSo 30 [] [(0, o0)] I R Q := by
  refine P_zret rfl z1 (by decide +kernel) h
theorem S_X8_wayNow_0 {X : CX} {d d1 : Nat} {a0 : Int} {I R : PF} {Q Q1 : PV → PF → PF → Prop} (k1 : kd MF a0 = 8) (e1 : d1 + 1 ≤ d) (hc : CN X d1 mX8_knows [(2, a0), (0, (I a0 1))] I R Q1) (h : ∀ z I2 R2, Q1 (0, z) I2 R2 → PN X d mX8_wayNow 8 [(2, a0)] [(0, z)] I2 R2 Q) : PN X d mX8_wayNow 0 [(2, a0)] [] I R Q := by
  refine P_aload_n (n := 0) (q := 1) rfl rfl (by decide +kernel) ?_
  refine P_aload_n (n := 0) (q := 2) rfl rfl (by decide +kernel) ?_
  refine P_getf (q := 5) fX8_15 k1 rfl (by decide +kernel) ?_
  refine P_invV (As := [(0, (I a0 1))]) (q := 8) oX8_knows rfl k1 kX8_39 e1 hMF (Nat.le_of_ble_eq_true rfl) hc rfl (by decide +kernel) (fun z I2 R2 hq => ?_)
  exact (h z I2 R2 hq)
theorem S_X8_wayNow_8 {X : CX} {d : Nat} {a0 o0 : Int} {I R : PF} {Q : PV → PF → PF → Prop} (c1 : -2147483648 ≤ o0 ∧ o0 < 2147483648) (h1 : o0 = 0 → PN X d mX8_wayNow 25 [] [] I R Q) (h2 : o0 ≠ 0 → PN X d mX8_wayNow 11 [(2, a0)] [] I R Q) : PN X d mX8_wayNow 8 [(2, a0)] [(0, o0)] I R Q := by
  refine B_if_eq (off := 17) (t := 25) (q := 11) c1 (by decide) rfl (by decide +kernel) ?_ ?_
  · exact fun g9 => (PW_sub (ls' := []) trivial (h1 g9))
  · exact fun g9 => (h2 g9)
theorem S_X8_wayNow_11 {X : CX} {d : Nat} {a0 : Int} {I R : PF} {Q : PV → PF → PF → Prop} (hs : Shp R) (k1 : kd MF a0 = 8) (b1 : (0 : Int) ≤ (I a0 1) ∧ (I a0 1) < 6) (h : PN X d mX8_wayNow 26 [] [(0, (I (a0 + 2 + (I a0 1)) 5))] I R Q) : PN X d mX8_wayNow 11 [(2, a0)] [] I R Q := by
  refine P_aload_n (n := 0) (q := 12) rfl rfl (by decide +kernel) ?_
  refine B_getfR (q := 15) fX8_26 k1 (sh8_4 hs k1) rfl (by decide +kernel) ?_
  refine P_aload_n (n := 0) (q := 16) rfl rfl (by decide +kernel) ?_
  refine P_getf (q := 19) fX8_15 k1 rfl (by decide +kernel) ?_
  refine B_aaloadI (q := 20) (st1 k1) (st1n k1) (by decide) b1 (sh8_r hs k1 b1.1 b1.2) rfl (by decide +kernel) ?_
  refine P_iconst (n := 5) (q := 21) rfl (by decide +kernel) ?_
  refine B_iaload (q := 22) (stR k1 b1.1 b1.2).1 (stR k1 b1.1 b1.2).2 (by decide) ⟨by decide, by decide⟩ rfl (by decide +kernel) ?_
  refine P_goto (off := 4) (t := 26) (by decide) (by decide +kernel) ?_
  exact (PW_sub (ls' := []) trivial h)
theorem S_X8_wayNow_25 {X : CX} {d : Nat} {I R : PF} {Q : PV → PF → PF → Prop} (h : PN X d mX8_wayNow 26 [] [(0, 0)] I R Q) : PN X d mX8_wayNow 25 [] [] I R Q := by
  refine P_iconst (n := 0) (q := 26) rfl (by decide +kernel) ?_
  exact (PW_sub (ls' := []) trivial h)
theorem S_X8_wayNow_26 {X : CX} {d : Nat} {o0 : Int} {I R : PF} {Q : PV → PF → PF → Prop} (h : Q (0, o0) I R) : PN X d mX8_wayNow 26 [] [(0, o0)] I R Q := by
  refine P_iret rfl (by decide +kernel) h
theorem S_X8_wear_0 {X : CX} {d d1 : Nat} {a0 x1 : Int} {I R : PF} {Q Q1 : PV → PF → PF → Prop} (e1 : d1 + 1 ≤ d) (hc : CN X d1 mX8_knows [(2, a0), (0, x1)] I R Q1) (k1 : kd MF a0 = 8) (h : ∀ z I2 R2, Q1 (0, z) I2 R2 → PN X d mX8_wear 5 [(2, a0), (0, x1)] [(0, z)] I2 R2 Q) : PN X d mX8_wear 0 [(2, a0), (0, x1)] [] I R Q := by
  refine P_aload_n (n := 0) (q := 1) rfl rfl (by decide +kernel) ?_
  refine P_iload_n (n := 1) (q := 2) rfl rfl (by decide +kernel) ?_
  refine P_invV (As := [(0, x1)]) (q := 5) oX8_knows rfl k1 kX8_39 e1 hMF (Nat.le_of_ble_eq_true rfl) hc rfl (by decide +kernel) (fun z I2 R2 hq => ?_)
  exact (h z I2 R2 hq)
theorem S_X8_wear_5 {X : CX} {d : Nat} {a0 x1 o0 : Int} {I R : PF} {Q : PV → PF → PF → Prop} (c1 : -2147483648 ≤ o0 ∧ o0 < 2147483648) (h1 : o0 ≠ 0 → PN X d mX8_wear 16 [(2, a0), (0, x1)] [] I R Q) (h2 : o0 = 0 → PN X d mX8_wear 8 [(2, a0), (0, x1)] [] I R Q) : PN X d mX8_wear 5 [(2, a0), (0, x1)] [(0, o0)] I R Q := by
  refine B_if_ne (off := 11) (t := 16) (q := 8) c1 (by decide) rfl (by decide +kernel) ?_ ?_
  · exact fun g9 => (h1 g9)
  · exact fun g9 => (h2 g9)
theorem S_X8_wear_8 {X : CX} {d : Nat} {a0 x1 : Int} {I R : PF} {Q : PV → PF → PF → Prop} (k1 : kd MF a0 = 8) (h : PN X d mX8_wear 69 [(2, a0), (0, x1)] [] (u2 I a0 2 0) R Q) : PN X d mX8_wear 8 [(2, a0), (0, x1)] [] I R Q := by
  refine P_aload_n (n := 0) (q := 9) rfl rfl (by decide +kernel) ?_
  refine P_iconst (n := 0) (q := 10) rfl (by decide +kernel) ?_
  refine P_putI (q := 13) wX8_18 (fun h => by cases h) k1 rfl (by decide +kernel) ?_
  refine P_goto (off := 56) (t := 69) (by decide) (by decide +kernel) ?_
  exact h
theorem S_X8_wear_16 {X : CX} {d : Nat} {a0 x1 : Int} {I R : PF} {Q : PV → PF → PF → Prop} (k1 : kd MF a0 = 8) (c1 : -2147483648 ≤ x1 ∧ x1 < 2147483648) (c2 : -2147483648 ≤ (I a0 1) ∧ (I a0 1) < 2147483648) (h1 : x1 ≠ (I a0 1) → PN X d mX8_wear 39 [(2, a0), (0, x1)] [(2, a0)] I R Q) (h2 : x1 = (I a0 1) → PN X d mX8_wear 25 [(2, a0), (0, x1)] [(2, a0)] I R Q) : PN X d mX8_wear 16 [(2, a0), (0, x1)] [] I R Q := by
  refine P_aload_n (n := 0) (q := 17) rfl rfl (by decide +kernel) ?_
  refine P_iload_n (n := 1) (q := 18) rfl rfl (by decide +kernel) ?_
  refine P_aload_n (n := 0) (q := 19) rfl rfl (by decide +kernel) ?_
  refine P_getf (q := 22) fX8_15 k1 rfl (by decide +kernel) ?_
  refine B_icmp_ne (off := 17) (t := 39) (q := 25) c1 c2 (by decide) rfl (by decide +kernel) ?_ ?_
  · exact fun g9 => (h1 g9)
  · exact fun g9 => (h2 g9)
theorem S_X8_wear_25 {X : CX} {d d1 : Nat} {a0 x1 s0 : Int} {I R : PF} {Q Q1 : PV → PF → PF → Prop} (k1 : kd MF a0 = 8) (e1 : d1 + 1 ≤ d) (hc : CN X d1 mJ9_min_7cf53 [(0, 99), (0, ((I a0 2) + 1))] I R Q1) (h : ∀ z I2 R2, Q1 (0, z) I2 R2 → PN X d mX8_wear 36 [(2, a0), (0, x1)] [(0, z), (2, s0)] I2 R2 Q) : PN X d mX8_wear 25 [(2, a0), (0, x1)] [(2, s0)] I R Q := by
  refine P_bipush (n := 99) (q := 27) rfl rfl (by decide +kernel) ?_
  refine P_aload_n (n := 0) (q := 28) rfl rfl (by decide +kernel) ?_
  refine P_getf (q := 31) fX8_18 k1 rfl (by decide +kernel) ?_
  refine P_iconst (n := 1) (q := 32) rfl (by decide +kernel) ?_
  refine P_iadd (q := 33) rfl (by decide +kernel) ?_
  refine P_invS (As := [(0, 99), (0, ((I a0 2) + 1))]) (q := 36) oJ9_min_7cf53 rfl (Or.inl kX8_47) e1 hMF (Nat.le_of_ble_eq_true rfl) hc rfl (by decide +kernel) (fun z I2 R2 hq => ?_)
  exact (h z I2 R2 hq)
theorem S_X8_wear_36 {X : CX} {d : Nat} {a0 x1 s0 o1 : Int} {I R : PF} {Q : PV → PF → PF → Prop} (h : PN X d mX8_wear 40 [(2, a0), (0, x1)] [(0, o1), (2, s0)] I R Q) : PN X d mX8_wear 36 [(2, a0), (0, x1)] [(0, o1), (2, s0)] I R Q := by
  refine P_goto (off := 4) (t := 40) (by decide) (by decide +kernel) ?_
  exact h
theorem S_X8_wear_39 {X : CX} {d : Nat} {a0 x1 s0 : Int} {I R : PF} {Q : PV → PF → PF → Prop} (h : PN X d mX8_wear 40 [(2, a0), (0, x1)] [(0, 1), (2, s0)] I R Q) : PN X d mX8_wear 39 [(2, a0), (0, x1)] [(2, s0)] I R Q := by
  refine P_iconst (n := 1) (q := 40) rfl (by decide +kernel) ?_
  exact h
theorem S_X8_wear_40 {X : CX} {d d1 : Nat} {a0 x1 s0 o1 : Int} {I R : PF} {Q Q1 : PV → PF → PF → Prop} (hs : Shp R) (k1 : kd MF s0 = 8) (k2 : kd MF a0 = 8) (b1 : (0 : Int) ≤ x1 ∧ x1 < 6) (e1 : d1 + 1 ≤ d) (hc : CN X d1 mJ9_min_7cf53 [(0, 999), (0, (((u2 I s0 2 o1) (a0 + 2 + x1) 7) + 1))] (u2 I s0 2 o1) R Q1) (h : ∀ z I2 R2, Q1 (0, z) I2 R2 → PN X d mX8_wear 68 [(2, a0), (0, x1)] [(0, z), (0, 7), (2, (a0 + 2 + x1))] I2 R2 Q) : PN X d mX8_wear 40 [(2, a0), (0, x1)] [(0, o1), (2, s0)] I R Q := by
  refine P_putI (q := 43) wX8_18 (fun h => by cases h) k1 rfl (by decide +kernel) ?_
  refine P_aload_n (n := 0) (q := 44) rfl rfl (by decide +kernel) ?_
  refine B_getfR (q := 47) fX8_26 k2 (sh8_4 hs k2) rfl (by decide +kernel) ?_
  refine P_iload_n (n := 1) (q := 48) rfl rfl (by decide +kernel) ?_
  refine B_aaloadI (q := 49) (st1 k2) (st1n k2) (by decide) b1 (sh8_r hs k2 b1.1 b1.2) rfl (by decide +kernel) ?_
  refine P_bipush (n := 7) (q := 51) rfl rfl (by decide +kernel) ?_
  refine P_sipush (n := 999) (q := 54) rfl rfl (by decide +kernel) ?_
  refine P_aload_n (n := 0) (q := 55) rfl rfl (by decide +kernel) ?_
  refine B_getfR (q := 58) fX8_26 k2 (sh8_4 hs k2) rfl (by decide +kernel) ?_
  refine P_iload_n (n := 1) (q := 59) rfl rfl (by decide +kernel) ?_
  refine B_aaloadI (q := 60) (st1 k2) (st1n k2) (by decide) b1 (sh8_r hs k2 b1.1 b1.2) rfl (by decide +kernel) ?_
  refine P_bipush (n := 7) (q := 62) rfl rfl (by decide +kernel) ?_
  refine B_iaload (q := 63) (stR k2 b1.1 b1.2).1 (stR k2 b1.1 b1.2).2 (by decide) ⟨by decide, by decide⟩ rfl (by decide +kernel) ?_
  refine P_iconst (n := 1) (q := 64) rfl (by decide +kernel) ?_
  refine P_iadd (q := 65) rfl (by decide +kernel) ?_
  refine P_invS (As := [(0, 999), (0, (((u2 I s0 2 o1) (a0 + 2 + x1) 7) + 1))]) (q := 68) oJ9_min_7cf53 rfl (Or.inl kX8_47) e1 hMF (Nat.le_of_ble_eq_true rfl) hc rfl (by decide +kernel) (fun z I2 R2 hq => ?_)
  exact (h z I2 R2 hq)
theorem S_X8_wear_68 {X : CX} {d : Nat} {a0 x1 s0 o1 o2 : Int} {I R : PF} {Q : PV → PF → PF → Prop} (k1 : kd MF s0 = 12) (b1 : (0 : Int) ≤ o1 ∧ o1 < (ln MF s0 : Int)) (n1 : (ln MF s0 : Int) < 2147483648) (h : PN X d mX8_wear 69 [(2, a0), (0, x1)] [] (u2 I s0 o1 o2) R Q) : PN X d mX8_wear 68 [(2, a0), (0, x1)] [(0, o2), (0, o1), (2, s0)] I R Q := by
  refine B_iastore (q := 69) k1 rfl n1 b1 rfl (by decide +kernel) ?_
  exact h
theorem S_X8_wear_69 {X : CX} {d d1 : Nat} {a0 x1 : Int} {I R : PF} {Q Q1 : PV → PF → PF → Prop} (k1 : kd MF a0 = 8) (e1 : d1 + 1 ≤ d) (hc : CN X d1 mJ9_min_7cf53 [(0, 999), (0, (((u2 I a0 1 x1) a0 0) + 1))] (u2 I a0 1 x1) R Q1) (h : ∀ z I2 R2, Q1 (0, z) I2 R2 → PN X d mX8_wear 87 [] [(0, z), (2, a0)] I2 R2 Q) : PN X d mX8_wear 69 [(2, a0), (0, x1)] [] I R Q := by
  refine P_aload_n (n := 0) (q := 70) rfl rfl (by decide +kernel) ?_
  refine P_iload_n (n := 1) (q := 71) rfl rfl (by decide +kernel) ?_
  refine P_putI (q := 74) wX8_15 (fun h => by cases h) k1 rfl (by decide +kernel) ?_
  refine P_aload_n (n := 0) (q := 75) rfl rfl (by decide +kernel) ?_
  refine P_sipush (n := 999) (q := 78) rfl rfl (by decide +kernel) ?_
  refine P_aload_n (n := 0) (q := 79) rfl rfl (by decide +kernel) ?_
  refine P_getf (q := 82) fX8_9 k1 rfl (by decide +kernel) ?_
  refine P_iconst (n := 1) (q := 83) rfl (by decide +kernel) ?_
  refine P_iadd (q := 84) rfl (by decide +kernel) ?_
  refine P_invS (As := [(0, 999), (0, (((u2 I a0 1 x1) a0 0) + 1))]) (q := 87) oJ9_min_7cf53 rfl (Or.inl kX8_47) e1 hMF (Nat.le_of_ble_eq_true rfl) hc rfl (by decide +kernel) (fun z I2 R2 hq => ?_)
  exact (PW_sub (ls' := []) trivial (h z I2 R2 hq))
theorem S_X8_wear_87 {X : CX} {d : Nat} {s0 o1 : Int} {I R : PF} {Q : PV → PF → PF → Prop} (k1 : kd MF s0 = 8) (h : Q (9, 0) (u2 I s0 0 o1) R) : PN X d mX8_wear 87 [] [(0, o1), (2, s0)] I R Q := by
  refine P_putI (q := 90) wX8_9 (fun h => by cases h) k1 rfl (by decide +kernel) ?_
  refine P_vret rfl (by decide +kernel) h
theorem S_X8_whoStands_0 {X : CX} {d : Nat} {a0 x1 x2 : Int} {I R : PF} {Q : PV → PF → PF → Prop} (h : PN X d mX8_whoStands 2 [(2, a0), (0, x1), (0, x2), (0, 0)] [] I R Q) : PN X d mX8_whoStands 0 [(2, a0), (0, x1), (0, x2)] [] I R Q := by
  refine P_iconst (n := 0) (q := 1) rfl (by decide +kernel) ?_
  refine P_istore_n (n := 3) (by decide) (q := 2) rfl (by decide +kernel) ?_
  exact h
theorem S_X8_whoStands_2 {X : CX} {d : Nat} {a0 x1 x2 x3 : Int} {I R : PF} {Q : PV → PF → PF → Prop} (k1 : kd MF a0 = 8) (c1 : -2147483648 ≤ x3 ∧ x3 < 2147483648) (c2 : -2147483648 ≤ (I a0 3) ∧ (I a0 3) < 2147483648) (h1 : (I a0 3) ≤ x3 → PN X d mX8_whoStands 28 [] [] I R Q) (h2 : x3 < (I a0 3) → PN X d mX8_whoStands 10 [(2, a0), (0, x1), (0, x2), (0, x3)] [] I R Q) : PN X d mX8_whoStands 2 [(2, a0), (0, x1), (0, x2), (0, x3)] [] I R Q := by
  refine P_iload_n (n := 3) (q := 3) rfl rfl (by decide +kernel) ?_
  refine P_aload_n (n := 0) (q := 4) rfl rfl (by decide +kernel) ?_
  refine P_getf (q := 7) fX8_21 k1 rfl (by decide +kernel) ?_
  refine B_icmp_ge (off := 21) (t := 28) (q := 10) c1 c2 (by decide) rfl (by decide +kernel) ?_ ?_
  · exact fun g9 => (PW_sub (ls' := []) trivial (h1 g9))
  · exact fun g9 => (h2 g9)
theorem S_X8_whoStands_10 {X : CX} {d d1 : Nat} {a0 x1 x2 x3 : Int} {I R : PF} {Q Q1 : PV → PF → PF → Prop} (e1 : d1 + 1 ≤ d) (hc : CN X d1 mX8_standsAt [(2, a0), (0, x3), (0, x1), (0, x2)] I R Q1) (k1 : kd MF a0 = 8) (h : ∀ z I2 R2, Q1 (0, z) I2 R2 → PN X d mX8_whoStands 17 [(2, a0), (0, x1), (0, x2), (0, x3)] [(0, z)] I2 R2 Q) : PN X d mX8_whoStands 10 [(2, a0), (0, x1), (0, x2), (0, x3)] [] I R Q := by
  refine P_aload_n (n := 0) (q := 11) rfl rfl (by decide +kernel) ?_
  refine P_iload_n (n := 3) (q := 12) rfl rfl (by decide +kernel) ?_
  refine P_iload_n (n := 1) (q := 13) rfl rfl (by decide +kernel) ?_
  refine P_iload_n (n := 2) (q := 14) rfl rfl (by decide +kernel) ?_
  refine P_invV (As := [(0, x3), (0, x1), (0, x2)]) (q := 17) oX8_standsAt rfl k1 kX8_35 e1 hMF (Nat.le_of_ble_eq_true rfl) hc rfl (by decide +kernel) (fun z I2 R2 hq => ?_)
  exact (h z I2 R2 hq)
theorem S_X8_whoStands_17 {X : CX} {d : Nat} {a0 x1 x2 x3 o0 : Int} {I R : PF} {Q : PV → PF → PF → Prop} (c1 : -2147483648 ≤ o0 ∧ o0 < 2147483648) (h1 : o0 = 0 → PN X d mX8_whoStands 22 [(2, a0), (0, x1), (0, x2), (0, x3)] [] I R Q) (h2 : o0 ≠ 0 → PN X d mX8_whoStands 20 [(9, 0), (9, 0), (9, 0), (0, x3)] [] I R Q) : PN X d mX8_whoStands 17 [(2, a0), (0, x1), (0, x2), (0, x3)] [(0, o0)] I R Q := by
  refine B_if_eq (off := 5) (t := 22) (q := 20) c1 (by decide) rfl (by decide +kernel) ?_ ?_
  · exact fun g9 => (h1 g9)
  · exact fun g9 => (PW_sub (ls' := [(9, 0), (9, 0), (9, 0), (0, x3)]) ⟨Or.inl rfl, Or.inl rfl, Or.inl rfl, Or.inr rfl, trivial⟩ (h2 g9))
theorem S_X8_whoStands_20 {X : CX} {d : Nat} {x3 : Int} {I R : PF} {Q : PV → PF → PF → Prop} (h : Q (0, x3) I R) : PN X d mX8_whoStands 20 [(9, 0), (9, 0), (9, 0), (0, x3)] [] I R Q := by
  refine P_iload_n (n := 3) (q := 21) rfl rfl (by decide +kernel) ?_
  refine P_iret rfl (by decide +kernel) h
theorem S_X8_whoStands_22 {X : CX} {d : Nat} {a0 x1 x2 x3 : Int} {I R : PF} {Q : PV → PF → PF → Prop} (h : PN X d mX8_whoStands 2 [(2, a0), (0, x1), (0, x2), (0, (x3 + 1))] [] I R Q) : PN X d mX8_whoStands 22 [(2, a0), (0, x1), (0, x2), (0, x3)] [] I R Q := by
  refine P_iinc (n := 3) (a := 1) (by decide) rfl (q := 25) rfl (by decide +kernel) ?_
  refine P_goto (off := (-23)) (t := 2) (by decide) (by decide +kernel) ?_
  exact h
theorem S_X8_whoStands_28 {X : CX} {d : Nat} {I R : PF} {Q : PV → PF → PF → Prop} (h : Q (0, (-1)) I R) : PN X d mX8_whoStands 28 [] [] I R Q := by
  refine P_iconst (n := (-1)) (q := 29) rfl (by decide +kernel) ?_
  refine P_iret rfl (by decide +kernel) h
theorem S_X9_letterOf_0 {X : CX} {d : Nat} {x0 x1 : Int} {I R : PF} {Q : PV → PF → PF → Prop} (c1 : -2147483648 ≤ x1 ∧ x1 < 2147483648) (h1 : x1 < 0 → PN X d mX9_letterOf 12 [] [] I R Q) (h2 : 0 ≤ x1 → PN X d mX9_letterOf 4 [(0, x0), (0, x1)] [] I R Q) : PN X d mX9_letterOf 0 [(0, x0), (0, x1)] [] I R Q := by
  refine P_iload_n (n := 1) (q := 1) rfl rfl (by decide +kernel) ?_
  refine B_if_lt (off := 11) (t := 12) (q := 4) c1 (by decide) rfl (by decide +kernel) ?_ ?_
  · exact fun g9 => (PW_sub (ls' := []) trivial (h1 g9))
  · exact fun g9 => (h2 g9)
theorem S_X9_letterOf_4 {X : CX} {d : Nat} {x0 x1 : Int} {I R : PF} {Q : PV → PF → PF → Prop} (c1 : -2147483648 ≤ x1 ∧ x1 < 2147483648) (c2 : -2147483648 ≤ ((sT 39).length : Int) ∧ ((sT 39).length : Int) < 2147483648) (h1 : x1 < ((sT 39).length : Int) → PN X d mX9_letterOf 16 [(0, x0), (0, x1)] [] I R Q) (h2 : ((sT 39).length : Int) ≤ x1 → PN X d mX9_letterOf 12 [] [] I R Q) : PN X d mX9_letterOf 4 [(0, x0), (0, x1)] [] I R Q := by
  refine P_iload_n (n := 1) (q := 5) rfl rfl (by decide +kernel) ?_
  refine P_gets (o := 39) (q := 8) (fun _ _ h => z39 h) ⟨by decide, by decide⟩ gX9_160 rfl (by decide +kernel) ?_
  refine P_alenS (q := 9) ⟨by decide, by decide⟩ rfl (by decide +kernel) ?_
  refine B_icmp_lt (off := 7) (t := 16) (q := 12) c1 c2 (by decide) rfl (by decide +kernel) ?_ ?_
  · exact fun g9 => (h1 g9)
  · exact fun g9 => (PW_sub (ls' := []) trivial (h2 g9))
theorem S_X9_letterOf_12 {X : CX} {d : Nat} {I R : PF} {Q : PV → PF → PF → Prop} (h : PN X d mX9_letterOf 26 [] [(0, (-1))] I R Q) : PN X d mX9_letterOf 12 [] [] I R Q := by
  refine P_iconst (n := (-1)) (q := 13) rfl (by decide +kernel) ?_
  refine P_goto (off := 13) (t := 26) (by decide) (by decide +kernel) ?_
  exact (PW_sub (ls' := []) trivial h)
theorem S_X9_letterOf_16 {X : CX} {d : Nat} {x0 x1 : Int} {I R : PF} {Q : PV → PF → PF → Prop} (b1 : (0 : Int) ≤ x1 ∧ x1 < 6) (f1 : ((sT 39).getD (x1).toNat 0) ≠ 0) (c1 : -2147483648 ≤ x0 ∧ x0 < 2147483648) (c2 : -2147483648 ≤ ((sT 39).getD (x1).toNat 0) ∧ ((sT 39).getD (x1).toNat 0) < 2147483648) (c3 : -2147483648 ≤ (x0.tdiv ((sT 39).getD (x1).toNat 0)) ∧ (x0.tdiv ((sT 39).getD (x1).toNat 0)) < 2147483648) (h : PN X d mX9_letterOf 26 [] [(0, ((x0.tdiv ((sT 39).getD (x1).toNat 0)).tmod 27))] I R Q) : PN X d mX9_letterOf 16 [(0, x0), (0, x1)] [] I R Q := by
  refine P_iload_n (n := 0) (q := 17) rfl rfl (by decide +kernel) ?_
  refine P_gets (o := 39) (q := 20) (fun _ _ h => z39 h) ⟨by decide, by decide⟩ gX9_160 rfl (by decide +kernel) ?_
  refine P_iload_n (n := 1) (q := 21) rfl rfl (by decide +kernel) ?_
  refine B_ialoadS (q := 22) ⟨by decide, by decide⟩ (by decide) b1 rfl (by decide +kernel) ?_
  refine B_idiv (q := 23) c1 c2 f1 rfl (by decide +kernel) ?_
  refine P_bipush (n := 27) (q := 25) rfl rfl (by decide +kernel) ?_
  refine B_irem (q := 26) c3 ⟨by decide, by decide⟩ (by decide) rfl (by decide +kernel) ?_
  exact (PW_sub (ls' := []) trivial h)
theorem S_X9_letterOf_26 {X : CX} {d : Nat} {o0 : Int} {I R : PF} {Q : PV → PF → PF → Prop} (h : Q (0, o0) I R) : PN X d mX9_letterOf 26 [] [(0, o0)] I R Q := by
  refine P_iret rfl (by decide +kernel) h
theorem S_X10_answerSum_0 {X : CX} {d : Nat} {a1 : Int} {I R : PF} {Q : PV → PF → PF → Prop} (h : PN X d mX10_answerSum 11 [(2, 64), (2, a1), (1, 0), (9, 0), (0, 0), (0, 0), (0, 0)] [] I R Q) : PN X d mX10_answerSum 0 [(2, 64), (2, a1)] [] I R Q := by
  refine P_lconst (n := 0) (x := 0) (q := 1) rfl rfl (by decide +kernel) ?_
  refine P_lstore_n (n := 2) (by decide) (q := 2) rfl (by decide +kernel) ?_
  refine P_iconst (n := 0) (q := 3) rfl (by decide +kernel) ?_
  refine P_istore (n := 4) (by decide) (q := 5) rfl (by decide +kernel) ?_
  refine P_iconst (n := 0) (q := 6) rfl (by decide +kernel) ?_
  refine P_istore (n := 5) (by decide) (q := 8) rfl (by decide +kernel) ?_
  refine P_iconst (n := 0) (q := 9) rfl (by decide +kernel) ?_
  refine P_istore (n := 6) (by decide) (q := 11) rfl (by decide +kernel) ?_
  exact h
theorem S_X10_answerSum_11 {X : CX} {d : Nat} {a1 y2 x4 x5 x6 : Int} {I R : PF} {Q : PV → PF → PF → Prop} (hs : Shp R) (c1 : -2147483648 ≤ x6 ∧ x6 < 2147483648) (c2 : -2147483648 ≤ (I 111 3) ∧ (I 111 3) < 2147483648) (h1 : (I 111 3) ≤ x6 → PN X d mX10_answerSum 88 [(9, 0), (2, a1), (1, y2), (9, 0), (0, x4), (0, x5)] [] I R Q) (h2 : x6 < (I 111 3) → PN X d mX10_answerSum 23 [(2, 64), (2, a1), (1, y2), (9, 0), (0, x4), (0, x5), (0, x6)] [] I R Q) : PN X d mX10_answerSum 11 [(2, 64), (2, a1), (1, y2), (9, 0), (0, x4), (0, x5), (0, x6)] [] I R Q := by
  refine P_iload (n := 6) (q := 13) rfl rfl (by decide +kernel) ?_
  refine P_aload_n (n := 0) (q := 14) rfl rfl (by decide +kernel) ?_
  refine B_getfR (q := 17) fX10_73 kM64 (rM64_11 hs) rfl (by decide +kernel) ?_
  refine P_getf (q := 20) fX10_151 kM111 rfl (by decide +kernel) ?_
  refine B_icmp_ge (off := 68) (t := 88) (q := 23) c1 c2 (by decide) rfl (by decide +kernel) ?_ ?_
  · exact fun g9 => (PW_sub (ls' := [(9, 0), (2, a1), (1, y2), (9, 0), (0, x4), (0, x5)]) ⟨Or.inl rfl, Or.inr rfl, Or.inr rfl, Or.inl rfl, Or.inr rfl, Or.inr rfl, trivial⟩ (h1 g9))
  · exact fun g9 => (h2 g9)
theorem S_X10_answerSum_23 {X : CX} {d d1 : Nat} {a1 y2 x4 x5 x6 : Int} {I R : PF} {Q Q1 : PV → PF → PF → Prop} (hs : Shp R) (e1 : d1 + 1 ≤ d) (hc : CN X d1 mX1_valueFor [(2, 127), (0, x6), (2, 68)] I R Q1) (h : ∀ z I2 R2, Q1 (0, z) I2 R2 → PN X d mX10_answerSum 36 [(2, 64), (2, a1), (1, y2), (9, 0), (0, x4), (0, x5), (0, x6)] [(0, z)] I2 R2 Q) : PN X d mX10_answerSum 23 [(2, 64), (2, a1), (1, y2), (9, 0), (0, x4), (0, x5), (0, x6)] [] I R Q := by
  refine P_aload_n (n := 0) (q := 24) rfl rfl (by decide +kernel) ?_
  refine B_getfR (q := 27) fX10_85 kM64 (rM64_13 hs) rfl (by decide +kernel) ?_
  refine P_iload (n := 6) (q := 29) rfl rfl (by decide +kernel) ?_
  refine P_aload_n (n := 0) (q := 30) rfl rfl (by decide +kernel) ?_
  refine B_getfR (q := 33) fX10_38 kM64 (rM64_6 hs) rfl (by decide +kernel) ?_
  refine P_invV (As := [(0, x6), (2, 68)]) (q := 36) oX1_valueFor rfl kM127 kX10_370 e1 hMF (Nat.le_of_ble_eq_true rfl) hc rfl (by decide +kernel) (fun z I2 R2 hq => ?_)
  exact (h z I2 R2 hq)
theorem S_X10_answerSum_36 {X : CX} {d : Nat} {a1 y2 x4 x5 x6 o0 : Int} {I R : PF} {Q : PV → PF → PF → Prop} (c1 : -2147483648 ≤ o0 ∧ o0 < 2147483648) (c2 : -2147483648 ≤ x6 ∧ x6 < 2147483648) (h1 : x6 ≠ 0 → PN X d mX10_answerSum 54 [(2, 64), (2, a1), (1, (y2 + o0)), (9, 0), (0, x4), (0, x5), (0, x6), (0, o0)] [] I R Q) (h2 : x6 = 0 → PN X d mX10_answerSum 49 [(2, 64), (2, a1), (1, (y2 + o0)), (9, 0), (9, 0), (0, x5), (0, x6), (0, o0)] [] I R Q) : PN X d mX10_answerSum 36 [(2, 64), (2, a1), (1, y2), (9, 0), (0, x4), (0, x5), (0, x6)] [(0, o0)] I R Q := by
  refine P_istore (n := 7) (by decide) (q := 38) rfl (by decide +kernel) ?_
  refine P_lload_n (n := 2) (q := 39) rfl rfl (by decide +kernel) ?_
  refine P_iload (n := 7) (q := 41) rfl rfl (by decide +kernel) ?_
  refine B_i2l (q := 42) c1 rfl (by decide +kernel) ?_
  refine P_ladd (q := 43) rfl (by decide +kernel) ?_
  refine P_lstore_n (n := 2) (by decide) (q := 44) rfl (by decide +kernel) ?_
  refine P_iload (n := 6) (q := 46) rfl rfl (by decide +kernel) ?_
  refine B_if_ne (off := 8) (t := 54) (q := 49) c2 (by decide) rfl (by decide +kernel) ?_ ?_
  · exact fun g9 => (h1 g9)
  · exact fun g9 => (PW_sub (ls' := [(2, 64), (2, a1), (1, (y2 + o0)), (9, 0), (9, 0), (0, x5), (0, x6), (0, o0)]) ⟨Or.inr rfl, Or.inr rfl, Or.inr rfl, Or.inl rfl, Or.inl rfl, Or.inr rfl, Or.inr rfl, Or.inr rfl, trivial⟩ (h2 g9))
theorem S_X10_answerSum_49 {X : CX} {d : Nat} {a1 y2 x5 x6 x7 : Int} {I R : PF} {Q : PV → PF → PF → Prop} (h : PN X d mX10_answerSum 61 [(2, 64), (2, a1), (1, y2), (9, 0), (9, 0), (0, x5), (0, x6), (0, x7)] [(0, x7)] I R Q) : PN X d mX10_answerSum 49 [(2, 64), (2, a1), (1, y2), (9, 0), (9, 0), (0, x5), (0, x6), (0, x7)] [] I R Q := by
  refine P_iload (n := 7) (q := 51) rfl rfl (by decide +kernel) ?_
  refine P_goto (off := 10) (t := 61) (by decide) (by decide +kernel) ?_
  exact h
theorem S_X10_answerSum_54 {X : CX} {d d1 : Nat} {a1 y2 x4 x5 x6 x7 : Int} {I R : PF} {Q Q1 : PV → PF → PF → Prop} (e1 : d1 + 1 ≤ d) (hc : CN X d1 mJ9_max_7cf53 [(0, x4), (0, x7)] I R Q1) (h : ∀ z I2 R2, Q1 (0, z) I2 R2 → PN X d mX10_answerSum 61 [(2, 64), (2, a1), (1, y2), (9, 0), (9, 0), (0, x5), (0, x6), (0, x7)] [(0, z)] I2 R2 Q) : PN X d mX10_answerSum 54 [(2, 64), (2, a1), (1, y2), (9, 0), (0, x4), (0, x5), (0, x6), (0, x7)] [] I R Q := by
  refine P_iload (n := 4) (q := 56) rfl rfl (by decide +kernel) ?_
  refine P_iload (n := 7) (q := 58) rfl rfl (by decide +kernel) ?_
  refine P_invS (As := [(0, x4), (0, x7)]) (q := 61) oJ9_max_7cf53 rfl (Or.inl kX10_374) e1 hMF (Nat.le_of_ble_eq_true rfl) hc rfl (by decide +kernel) (fun z I2 R2 hq => ?_)
  exact (PW_sub (ls' := [(2, 64), (2, a1), (1, y2), (9, 0), (9, 0), (0, x5), (0, x6), (0, x7)]) ⟨Or.inr rfl, Or.inr rfl, Or.inr rfl, Or.inl rfl, Or.inl rfl, Or.inr rfl, Or.inr rfl, Or.inr rfl, trivial⟩ (h z I2 R2 hq))
theorem S_X10_answerSum_61 {X : CX} {d : Nat} {a1 y2 x5 x6 x7 o0 : Int} {I R : PF} {Q : PV → PF → PF → Prop} (c1 : -2147483648 ≤ x6 ∧ x6 < 2147483648) (h1 : x6 ≠ 0 → PN X d mX10_answerSum 73 [(2, 64), (2, a1), (1, y2), (9, 0), (0, o0), (0, x5), (0, x6), (0, x7)] [] I R Q) (h2 : x6 = 0 → PN X d mX10_answerSum 68 [(2, 64), (2, a1), (1, y2), (9, 0), (0, o0), (9, 0), (0, x6), (0, x7)] [] I R Q) : PN X d mX10_answerSum 61 [(2, 64), (2, a1), (1, y2), (9, 0), (9, 0), (0, x5), (0, x6), (0, x7)] [(0, o0)] I R Q := by
  refine P_istore (n := 4) (by decide) (q := 63) rfl (by decide +kernel) ?_
  refine P_iload (n := 6) (q := 65) rfl rfl (by decide +kernel) ?_
  refine B_if_ne (off := 8) (t := 73) (q := 68) c1 (by decide) rfl (by decide +kernel) ?_ ?_
  · exact fun g9 => (h1 g9)
  · exact fun g9 => (PW_sub (ls' := [(2, 64), (2, a1), (1, y2), (9, 0), (0, o0), (9, 0), (0, x6), (0, x7)]) ⟨Or.inr rfl, Or.inr rfl, Or.inr rfl, Or.inl rfl, Or.inr rfl, Or.inl rfl, Or.inr rfl, Or.inr rfl, trivial⟩ (h2 g9))
theorem S_X10_answerSum_68 {X : CX} {d : Nat} {a1 y2 x4 x6 x7 : Int} {I R : PF} {Q : PV → PF → PF → Prop} (h : PN X d mX10_answerSum 80 [(2, 64), (2, a1), (1, y2), (9, 0), (0, x4), (9, 0), (0, x6)] [(0, x7)] I R Q) : PN X d mX10_answerSum 68 [(2, 64), (2, a1), (1, y2), (9, 0), (0, x4), (9, 0), (0, x6), (0, x7)] [] I R Q := by
  refine P_iload (n := 7) (q := 70) rfl rfl (by decide +kernel) ?_
  refine P_goto (off := 10) (t := 80) (by decide) (by decide +kernel) ?_
  exact (PW_sub (ls' := [(2, 64), (2, a1), (1, y2), (9, 0), (0, x4), (9, 0), (0, x6)]) ⟨Or.inr rfl, Or.inr rfl, Or.inr rfl, Or.inl rfl, Or.inr rfl, Or.inl rfl, Or.inr rfl, trivial⟩ h)
theorem S_X10_answerSum_73 {X : CX} {d d1 : Nat} {a1 y2 x4 x5 x6 x7 : Int} {I R : PF} {Q Q1 : PV → PF → PF → Prop} (e1 : d1 + 1 ≤ d) (hc : CN X d1 mJ9_min_7cf53 [(0, x5), (0, x7)] I R Q1) (h : ∀ z I2 R2, Q1 (0, z) I2 R2 → PN X d mX10_answerSum 80 [(2, 64), (2, a1), (1, y2), (9, 0), (0, x4), (9, 0), (0, x6)] [(0, z)] I2 R2 Q) : PN X d mX10_answerSum 73 [(2, 64), (2, a1), (1, y2), (9, 0), (0, x4), (0, x5), (0, x6), (0, x7)] [] I R Q := by
  refine P_iload (n := 5) (q := 75) rfl rfl (by decide +kernel) ?_
  refine P_iload (n := 7) (q := 77) rfl rfl (by decide +kernel) ?_
  refine P_invS (As := [(0, x5), (0, x7)]) (q := 80) oJ9_min_7cf53 rfl (Or.inl kX10_278) e1 hMF (Nat.le_of_ble_eq_true rfl) hc rfl (by decide +kernel) (fun z I2 R2 hq => ?_)
  exact (PW_sub (ls' := [(2, 64), (2, a1), (1, y2), (9, 0), (0, x4), (9, 0), (0, x6)]) ⟨Or.inr rfl, Or.inr rfl, Or.inr rfl, Or.inl rfl, Or.inr rfl, Or.inl rfl, Or.inr rfl, trivial⟩ (h z I2 R2 hq))
theorem S_X10_answerSum_80 {X : CX} {d : Nat} {a1 y2 x4 x6 o0 : Int} {I R : PF} {Q : PV → PF → PF → Prop} (h : PN X d mX10_answerSum 11 [(2, 64), (2, a1), (1, y2), (9, 0), (0, x4), (0, o0), (0, (x6 + 1))] [] I R Q) : PN X d mX10_answerSum 80 [(2, 64), (2, a1), (1, y2), (9, 0), (0, x4), (9, 0), (0, x6)] [(0, o0)] I R Q := by
  refine P_istore (n := 5) (by decide) (q := 82) rfl (by decide +kernel) ?_
  refine P_iinc (n := 6) (a := 1) (by decide) rfl (q := 85) rfl (by decide +kernel) ?_
  refine P_goto (off := (-74)) (t := 11) (by decide) (by decide +kernel) ?_
  exact (PW_sub (ls' := [(2, 64), (2, a1), (1, y2), (9, 0), (0, x4), (0, o0), (0, (x6 + 1))]) ⟨Or.inr rfl, Or.inr rfl, Or.inr rfl, Or.inl rfl, Or.inr rfl, Or.inr rfl, Or.inr rfl, trivial⟩ h)
theorem S_X10_answerSum_88 {X : CX} {d : Nat} {a1 y2 x4 x5 : Int} {I R : PF} {Q : PV → PF → PF → Prop} (c1 : 0 ≤ a1 ∧ a1 ≤ 37) (h1 : a1 ≠ 35 → PN X d mX10_answerSum 97 [(9, 0), (2, a1), (9, 0), (9, 0), (0, x4), (0, x5)] [] I R Q) (h2 : a1 = 35 → PN X d mX10_answerSum 95 [(9, 0), (9, 0), (1, y2)] [] I R Q) : PN X d mX10_answerSum 88 [(9, 0), (2, a1), (1, y2), (9, 0), (0, x4), (0, x5)] [] I R Q := by
  refine P_aload_n (n := 1) (q := 89) rfl rfl (by decide +kernel) ?_
  refine P_gets (o := 35) (q := 92) (fun _ _ h => zW (i := 34) (by decide) h) ⟨by decide, by decide⟩ gX10_377 rfl (by decide +kernel) ?_
  refine P_acmp_ne (off := 5) (t := 97) (q := 95) c1 ⟨by decide, by decide⟩ (by decide) rfl (by decide +kernel) ?_ ?_
  · exact fun g9 => (PW_sub (ls' := [(9, 0), (2, a1), (9, 0), (9, 0), (0, x4), (0, x5)]) ⟨Or.inl rfl, Or.inr rfl, Or.inl rfl, Or.inl rfl, Or.inr rfl, Or.inr rfl, trivial⟩ (h1 g9))
  · exact fun g9 => (PW_sub (ls' := [(9, 0), (9, 0), (1, y2)]) ⟨Or.inl rfl, Or.inl rfl, Or.inr rfl, trivial⟩ (h2 g9))
theorem S_X10_answerSum_95 {X : CX} {d : Nat} {y2 : Int} {I R : PF} {Q : PV → PF → PF → Prop} (h : Q (1, y2) I R) : PN X d mX10_answerSum 95 [(9, 0), (9, 0), (1, y2)] [] I R Q := by
  refine P_lload_n (n := 2) (q := 96) rfl rfl (by decide +kernel) ?_
  refine P_lret rfl (by decide +kernel) h
theorem S_X10_answerSum_97 {X : CX} {d : Nat} {a1 x4 x5 : Int} {I R : PF} {Q : PV → PF → PF → Prop} (c1 : 0 ≤ a1 ∧ a1 ≤ 37) (h1 : a1 ≠ 36 → PN X d mX10_answerSum 110 [(9, 0), (9, 0), (9, 0), (9, 0), (9, 0), (0, x5)] [] I R Q) (h2 : a1 = 36 → PN X d mX10_answerSum 104 [(9, 0), (9, 0), (9, 0), (9, 0), (0, x4)] [] I R Q) : PN X d mX10_answerSum 97 [(9, 0), (2, a1), (9, 0), (9, 0), (0, x4), (0, x5)] [] I R Q := by
  refine P_aload_n (n := 1) (q := 98) rfl rfl (by decide +kernel) ?_
  refine P_gets (o := 36) (q := 101) (fun _ _ h => zW (i := 35) (by decide) h) ⟨by decide, by decide⟩ gX10_380 rfl (by decide +kernel) ?_
  refine P_acmp_ne (off := 9) (t := 110) (q := 104) c1 ⟨by decide, by decide⟩ (by decide) rfl (by decide +kernel) ?_ ?_
  · exact fun g9 => (PW_sub (ls' := [(9, 0), (9, 0), (9, 0), (9, 0), (9, 0), (0, x5)]) ⟨Or.inl rfl, Or.inl rfl, Or.inl rfl, Or.inl rfl, Or.inl rfl, Or.inr rfl, trivial⟩ (h1 g9))
  · exact fun g9 => (PW_sub (ls' := [(9, 0), (9, 0), (9, 0), (9, 0), (0, x4)]) ⟨Or.inl rfl, Or.inl rfl, Or.inl rfl, Or.inl rfl, Or.inr rfl, trivial⟩ (h2 g9))
theorem S_X10_answerSum_104 {X : CX} {d : Nat} {x4 : Int} {I R : PF} {Q : PV → PF → PF → Prop} (c1 : -2147483648 ≤ x4 ∧ x4 < 2147483648) (h : PN X d mX10_answerSum 113 [] [(1, x4)] I R Q) : PN X d mX10_answerSum 104 [(9, 0), (9, 0), (9, 0), (9, 0), (0, x4)] [] I R Q := by
  refine P_iload (n := 4) (q := 106) rfl rfl (by decide +kernel) ?_
  refine B_i2l (q := 107) c1 rfl (by decide +kernel) ?_
  refine P_goto (off := 6) (t := 113) (by decide) (by decide +kernel) ?_
  exact (PW_sub (ls' := []) trivial h)
theorem S_X10_answerSum_110 {X : CX} {d : Nat} {x5 : Int} {I R : PF} {Q : PV → PF → PF → Prop} (c1 : -2147483648 ≤ x5 ∧ x5 < 2147483648) (h : PN X d mX10_answerSum 113 [] [(1, x5)] I R Q) : PN X d mX10_answerSum 110 [(9, 0), (9, 0), (9, 0), (9, 0), (9, 0), (0, x5)] [] I R Q := by
  refine P_iload (n := 5) (q := 112) rfl rfl (by decide +kernel) ?_
  refine B_i2l (q := 113) c1 rfl (by decide +kernel) ?_
  exact (PW_sub (ls' := []) trivial h)
theorem S_X10_answerSum_113 {X : CX} {d : Nat} {v0 : Int} {I R : PF} {Q : PV → PF → PF → Prop} (h : Q (1, v0) I R) : PN X d mX10_answerSum 113 [] [(1, v0)] I R Q := by
  refine P_lret rfl (by decide +kernel) h
theorem S_X10_answerTest_0 {X : CX} {d : Nat} {a1 : Int} {I R : PF} {Q : PV → PF → PF → Prop} (h : PN X d mX10_answerTest 10 [(2, 64), (2, a1), (0, (-1)), (0, (-1)), (0, 0), (0, 0)] [] I R Q) : PN X d mX10_answerTest 0 [(2, 64), (2, a1)] [] I R Q := by
  refine P_iconst (n := (-1)) (q := 1) rfl (by decide +kernel) ?_
  refine P_istore_n (n := 2) (by decide) (q := 2) rfl (by decide +kernel) ?_
  refine P_iconst (n := (-1)) (q := 3) rfl (by decide +kernel) ?_
  refine P_istore_n (n := 3) (by decide) (q := 4) rfl (by decide +kernel) ?_
  refine P_iconst (n := 0) (q := 5) rfl (by decide +kernel) ?_
  refine P_istore (n := 4) (by decide) (q := 7) rfl (by decide +kernel) ?_
  refine P_iconst (n := 0) (q := 8) rfl (by decide +kernel) ?_
  refine P_istore (n := 5) (by decide) (q := 10) rfl (by decide +kernel) ?_
  exact h
theorem S_X10_answerTest_10 {X : CX} {d : Nat} {a1 x2 x3 x4 x5 : Int} {I R : PF} {Q : PV → PF → PF → Prop} (hs : Shp R) (c1 : -2147483648 ≤ x5 ∧ x5 < 2147483648) (c2 : -2147483648 ≤ (I 111 3) ∧ (I 111 3) < 2147483648) (h1 : (I 111 3) ≤ x5 → PN X d mX10_answerTest 62 [(9, 0), (2, a1), (0, x2), (0, x3), (0, x4)] [] I R Q) (h2 : x5 < (I 111 3) → PN X d mX10_answerTest 22 [(2, 64), (2, a1), (0, x2), (0, x3), (0, x4), (0, x5)] [] I R Q) : PN X d mX10_answerTest 10 [(2, 64), (2, a1), (0, x2), (0, x3), (0, x4), (0, x5)] [] I R Q := by
  refine P_iload (n := 5) (q := 12) rfl rfl (by decide +kernel) ?_
  refine P_aload_n (n := 0) (q := 13) rfl rfl (by decide +kernel) ?_
  refine B_getfR (q := 16) fX10_73 kM64 (rM64_11 hs) rfl (by decide +kernel) ?_
  refine P_getf (q := 19) fX10_151 kM111 rfl (by decide +kernel) ?_
  refine B_icmp_ge (off := 43) (t := 62) (q := 22) c1 c2 (by decide) rfl (by decide +kernel) ?_ ?_
  · exact fun g9 => (PW_sub (ls' := [(9, 0), (2, a1), (0, x2), (0, x3), (0, x4)]) ⟨Or.inl rfl, Or.inr rfl, Or.inr rfl, Or.inr rfl, Or.inr rfl, trivial⟩ (h1 g9))
  · exact fun g9 => (h2 g9)
theorem S_X10_answerTest_22 {X : CX} {d d1 : Nat} {a1 x2 x3 x4 x5 : Int} {I R : PF} {Q Q1 : PV → PF → PF → Prop} (hs : Shp R) (e1 : d1 + 1 ≤ d) (hc : CN X d1 mX1_valueFor [(2, 127), (0, x5), (2, 68)] I R Q1) (h : ∀ z I2 R2, Q1 (0, z) I2 R2 → PN X d mX10_answerTest 35 [(2, 64), (2, a1), (0, x2), (0, x3), (0, x4), (0, x5)] [(0, z)] I2 R2 Q) : PN X d mX10_answerTest 22 [(2, 64), (2, a1), (0, x2), (0, x3), (0, x4), (0, x5)] [] I R Q := by
  refine P_aload_n (n := 0) (q := 23) rfl rfl (by decide +kernel) ?_
  refine B_getfR (q := 26) fX10_85 kM64 (rM64_13 hs) rfl (by decide +kernel) ?_
  refine P_iload (n := 5) (q := 28) rfl rfl (by decide +kernel) ?_
  refine P_aload_n (n := 0) (q := 29) rfl rfl (by decide +kernel) ?_
  refine B_getfR (q := 32) fX10_38 kM64 (rM64_6 hs) rfl (by decide +kernel) ?_
  refine P_invV (As := [(0, x5), (2, 68)]) (q := 35) oX1_valueFor rfl kM127 kX10_370 e1 hMF (Nat.le_of_ble_eq_true rfl) hc rfl (by decide +kernel) (fun z I2 R2 hq => ?_)
  exact (h z I2 R2 hq)
theorem S_X10_answerTest_35 {X : CX} {d : Nat} {a1 x2 x3 x4 x5 o0 : Int} {I R : PF} {Q : PV → PF → PF → Prop} (c1 : -2147483648 ≤ o0 ∧ o0 < 2147483648) (h1 : o0 = 0 → PN X d mX10_answerTest 56 [(2, 64), (2, a1), (0, x2), (0, x3), (0, x4), (0, x5)] [] I R Q) (h2 : o0 ≠ 0 → PN X d mX10_answerTest 38 [(2, 64), (2, a1), (0, x2), (9, 0), (0, x4), (0, x5)] [] I R Q) : PN X d mX10_answerTest 35 [(2, 64), (2, a1), (0, x2), (0, x3), (0, x4), (0, x5)] [(0, o0)] I R Q := by
  refine B_if_eq (off := 21) (t := 56) (q := 38) c1 (by decide) rfl (by decide +kernel) ?_ ?_
  · exact fun g9 => (h1 g9)
  · exact fun g9 => (PW_sub (ls' := [(2, 64), (2, a1), (0, x2), (9, 0), (0, x4), (0, x5)]) ⟨Or.inr rfl, Or.inr rfl, Or.inr rfl, Or.inl rfl, Or.inr rfl, Or.inr rfl, trivial⟩ (h2 g9))
theorem S_X10_answerTest_38 {X : CX} {d : Nat} {a1 x2 x4 x5 : Int} {I R : PF} {Q : PV → PF → PF → Prop} (c1 : -2147483648 ≤ x4 ∧ x4 < 2147483648) (h1 : x4 ≠ 0 → PN X d mX10_answerTest 48 [(2, 64), (2, a1), (0, x2), (9, 0), (0, x4), (0, x5)] [] I R Q) (h2 : x4 = 0 → PN X d mX10_answerTest 43 [(2, 64), (2, a1), (9, 0), (9, 0), (0, x4), (0, x5)] [] I R Q) : PN X d mX10_answerTest 38 [(2, 64), (2, a1), (0, x2), (9, 0), (0, x4), (0, x5)] [] I R Q := by
  refine P_iload (n := 4) (q := 40) rfl rfl (by decide +kernel) ?_
  refine B_if_ne (off := 8) (t := 48) (q := 43) c1 (by decide) rfl (by decide +kernel) ?_ ?_
  · exact fun g9 => (h1 g9)
  · exact fun g9 => (PW_sub (ls' := [(2, 64), (2, a1), (9, 0), (9, 0), (0, x4), (0, x5)]) ⟨Or.inr rfl, Or.inr rfl, Or.inl rfl, Or.inl rfl, Or.inr rfl, Or.inr rfl, trivial⟩ (h2 g9))
theorem S_X10_answerTest_43 {X : CX} {d : Nat} {a1 x4 x5 : Int} {I R : PF} {Q : PV → PF → PF → Prop} (h : PN X d mX10_answerTest 49 [(2, 64), (2, a1), (9, 0), (9, 0), (0, x4), (0, x5)] [(0, x5)] I R Q) : PN X d mX10_answerTest 43 [(2, 64), (2, a1), (9, 0), (9, 0), (0, x4), (0, x5)] [] I R Q := by
  refine P_iload (n := 5) (q := 45) rfl rfl (by decide +kernel) ?_
  refine P_goto (off := 4) (t := 49) (by decide) (by decide +kernel) ?_
  exact h
theorem S_X10_answerTest_48 {X : CX} {d : Nat} {a1 x2 x4 x5 : Int} {I R : PF} {Q : PV → PF → PF → Prop} (h : PN X d mX10_answerTest 49 [(2, 64), (2, a1), (9, 0), (9, 0), (0, x4), (0, x5)] [(0, x2)] I R Q) : PN X d mX10_answerTest 48 [(2, 64), (2, a1), (0, x2), (9, 0), (0, x4), (0, x5)] [] I R Q := by
  refine P_iload_n (n := 2) (q := 49) rfl rfl (by decide +kernel) ?_
  exact (PW_sub (ls' := [(2, 64), (2, a1), (9, 0), (9, 0), (0, x4), (0, x5)]) ⟨Or.inr rfl, Or.inr rfl, Or.inl rfl, Or.inl rfl, Or.inr rfl, Or.inr rfl, trivial⟩ h)
theorem S_X10_answerTest_49 {X : CX} {d : Nat} {a1 x4 x5 o0 : Int} {I R : PF} {Q : PV → PF → PF → Prop} (h : PN X d mX10_answerTest 56 [(2, 64), (2, a1), (0, o0), (0, x5), (0, (x4 + 1)), (0, x5)] [] I R Q) : PN X d mX10_answerTest 49 [(2, 64), (2, a1), (9, 0), (9, 0), (0, x4), (0, x5)] [(0, o0)] I R Q := by
  refine P_istore_n (n := 2) (by decide) (q := 50) rfl (by decide +kernel) ?_
  refine P_iload (n := 5) (q := 52) rfl rfl (by decide +kernel) ?_
  refine P_istore_n (n := 3) (by decide) (q := 53) rfl (by decide +kernel) ?_
  refine P_iinc (n := 4) (a := 1) (by decide) rfl (q := 56) rfl (by decide +kernel) ?_
  exact h
theorem S_X10_answerTest_56 {X : CX} {d : Nat} {a1 x2 x3 x4 x5 : Int} {I R : PF} {Q : PV → PF → PF → Prop} (h : PN X d mX10_answerTest 10 [(2, 64), (2, a1), (0, x2), (0, x3), (0, x4), (0, (x5 + 1))] [] I R Q) : PN X d mX10_answerTest 56 [(2, 64), (2, a1), (0, x2), (0, x3), (0, x4), (0, x5)] [] I R Q := by
  refine P_iinc (n := 5) (a := 1) (by decide) rfl (q := 59) rfl (by decide +kernel) ?_
  refine P_goto (off := (-49)) (t := 10) (by decide) (by decide +kernel) ?_
  exact h
theorem S_X10_answerTest_62 {X : CX} {d : Nat} {a1 x2 x3 x4 : Int} {I R : PF} {Q : PV → PF → PF → Prop} (c1 : 0 ≤ a1 ∧ a1 ≤ 37) (h1 : a1 ≠ 34 → PN X d mX10_answerTest 73 [(9, 0), (2, a1), (0, x2), (0, x3)] [] I R Q) (h2 : a1 = 34 → PN X d mX10_answerTest 69 [(9, 0), (9, 0), (9, 0), (9, 0), (0, x4)] [] I R Q) : PN X d mX10_answerTest 62 [(9, 0), (2, a1), (0, x2), (0, x3), (0, x4)] [] I R Q := by
  refine P_aload_n (n := 1) (q := 63) rfl rfl (by decide +kernel) ?_
  refine P_gets (o := 34) (q := 66) (fun _ _ h => zW (i := 33) (by decide) h) ⟨by decide, by decide⟩ gX10_360 rfl (by decide +kernel) ?_
  refine P_acmp_ne (off := 7) (t := 73) (q := 69) c1 ⟨by decide, by decide⟩ (by decide) rfl (by decide +kernel) ?_ ?_
  · exact fun g9 => (PW_sub (ls' := [(9, 0), (2, a1), (0, x2), (0, x3)]) ⟨Or.inl rfl, Or.inr rfl, Or.inr rfl, Or.inr rfl, trivial⟩ (h1 g9))
  · exact fun g9 => (PW_sub (ls' := [(9, 0), (9, 0), (9, 0), (9, 0), (0, x4)]) ⟨Or.inl rfl, Or.inl rfl, Or.inl rfl, Or.inl rfl, Or.inr rfl, trivial⟩ (h2 g9))
theorem S_X10_answerTest_69 {X : CX} {d : Nat} {x4 : Int} {I R : PF} {Q : PV → PF → PF → Prop} (c1 : -2147483648 ≤ x4 ∧ x4 < 2147483648) (h : Q (1, x4) I R) : PN X d mX10_answerTest 69 [(9, 0), (9, 0), (9, 0), (9, 0), (0, x4)] [] I R Q := by
  refine P_iload (n := 4) (q := 71) rfl rfl (by decide +kernel) ?_
  refine B_i2l (q := 72) c1 rfl (by decide +kernel) ?_
  refine P_lret rfl (by decide +kernel) h
theorem S_X10_answerTest_73 {X : CX} {d : Nat} {a1 x2 x3 : Int} {I R : PF} {Q : PV → PF → PF → Prop} (c1 : 0 ≤ a1 ∧ a1 ≤ 37) (h1 : a1 ≠ 32 → PN X d mX10_answerTest 85 [(9, 0), (9, 0), (9, 0), (0, x3)] [] I R Q) (h2 : a1 = 32 → PN X d mX10_answerTest 80 [(9, 0), (9, 0), (0, x2)] [] I R Q) : PN X d mX10_answerTest 73 [(9, 0), (2, a1), (0, x2), (0, x3)] [] I R Q := by
  refine P_aload_n (n := 1) (q := 74) rfl rfl (by decide +kernel) ?_
  refine P_gets (o := 32) (q := 77) (fun _ _ h => zW (i := 31) (by decide) h) ⟨by decide, by decide⟩ gX10_353 rfl (by decide +kernel) ?_
  refine P_acmp_ne (off := 8) (t := 85) (q := 80) c1 ⟨by decide, by decide⟩ (by decide) rfl (by decide +kernel) ?_ ?_
  · exact fun g9 => (PW_sub (ls' := [(9, 0), (9, 0), (9, 0), (0, x3)]) ⟨Or.inl rfl, Or.inl rfl, Or.inl rfl, Or.inr rfl, trivial⟩ (h1 g9))
  · exact fun g9 => (PW_sub (ls' := [(9, 0), (9, 0), (0, x2)]) ⟨Or.inl rfl, Or.inl rfl, Or.inr rfl, trivial⟩ (h2 g9))
theorem S_X10_answerTest_80 {X : CX} {d : Nat} {x2 : Int} {I R : PF} {Q : PV → PF → PF → Prop} (c1 : -2147483648 ≤ x2 ∧ x2 < 2147483648) (h : PN X d mX10_answerTest 87 [] [(1, x2)] I R Q) : PN X d mX10_answerTest 80 [(9, 0), (9, 0), (0, x2)] [] I R Q := by
  refine P_iload_n (n := 2) (q := 81) rfl rfl (by decide +kernel) ?_
  refine B_i2l (q := 82) c1 rfl (by decide +kernel) ?_
  refine P_goto (off := 5) (t := 87) (by decide) (by decide +kernel) ?_
  exact (PW_sub (ls' := []) trivial h)
theorem S_X10_answerTest_85 {X : CX} {d : Nat} {x3 : Int} {I R : PF} {Q : PV → PF → PF → Prop} (c1 : -2147483648 ≤ x3 ∧ x3 < 2147483648) (h : PN X d mX10_answerTest 87 [] [(1, x3)] I R Q) : PN X d mX10_answerTest 85 [(9, 0), (9, 0), (9, 0), (0, x3)] [] I R Q := by
  refine P_iload_n (n := 3) (q := 86) rfl rfl (by decide +kernel) ?_
  refine B_i2l (q := 87) c1 rfl (by decide +kernel) ?_
  exact (PW_sub (ls' := []) trivial h)
theorem S_X10_answerTest_87 {X : CX} {d : Nat} {v0 : Int} {I R : PF} {Q : PV → PF → PF → Prop} (h : Q (1, v0) I R) : PN X d mX10_answerTest 87 [] [(1, v0)] I R Q := by
  refine P_lret rfl (by decide +kernel) h
theorem S_X10_areLaws_0 {X : CX} {d : Nat} {x1 : Int} {I R : PF} {Q : PV → PF → PF → Prop} (c1 : -2147483648 ≤ x1 ∧ x1 < 2147483648) (h1 : x1 < 1 → PN X d mX10_areLaws 11 [] [] I R Q) (h2 : 1 ≤ x1 → PN X d mX10_areLaws 5 [(2, 64), (0, x1)] [] I R Q) : PN X d mX10_areLaws 0 [(2, 64), (0, x1)] [] I R Q := by
  refine P_iload_n (n := 1) (q := 1) rfl rfl (by decide +kernel) ?_
  refine P_iconst (n := 1) (q := 2) rfl (by decide +kernel) ?_
  refine B_icmp_lt (off := 9) (t := 11) (q := 5) c1 ⟨by decide, by decide⟩ (by decide) rfl (by decide +kernel) ?_ ?_
  · exact fun g9 => (PW_sub (ls' := []) trivial (h1 g9))
  · exact fun g9 => (h2 g9)
theorem S_X10_areLaws_5 {X : CX} {d : Nat} {x1 : Int} {I R : PF} {Q : PV → PF → PF → Prop} (c1 : -2147483648 ≤ x1 ∧ x1 < 2147483648) (h1 : x1 ≤ 7 → PN X d mX10_areLaws 13 [(2, 64), (0, x1)] [] I R Q) (h2 : 7 < x1 → PN X d mX10_areLaws 11 [] [] I R Q) : PN X d mX10_areLaws 5 [(2, 64), (0, x1)] [] I R Q := by
  refine P_iload_n (n := 1) (q := 6) rfl rfl (by decide +kernel) ?_
  refine P_bipush (n := 7) (q := 8) rfl rfl (by decide +kernel) ?_
  refine B_icmp_le (off := 5) (t := 13) (q := 11) c1 ⟨by decide, by decide⟩ (by decide) rfl (by decide +kernel) ?_ ?_
  · exact fun g9 => (h1 g9)
  · exact fun g9 => (PW_sub (ls' := []) trivial (h2 g9))
theorem S_X10_areLaws_11 {X : CX} {d : Nat} {I R : PF} {Q : PV → PF → PF → Prop} (h : Q (0, 0) I R) : PN X d mX10_areLaws 11 [] [] I R Q := by
  refine P_iconst (n := 0) (q := 12) rfl (by decide +kernel) ?_
  refine P_zret rfl (Or.inl rfl) (by decide +kernel) h
theorem S_X10_areLaws_13 {X : CX} {d : Nat} {x1 : Int} {I R : PF} {Q : PV → PF → PF → Prop} (h : PN X d mX10_areLaws 15 [(2, 64), (0, x1), (0, 0)] [] I R Q) : PN X d mX10_areLaws 13 [(2, 64), (0, x1)] [] I R Q := by
  refine P_iconst (n := 0) (q := 14) rfl (by decide +kernel) ?_
  refine P_istore_n (n := 2) (by decide) (q := 15) rfl (by decide +kernel) ?_
  exact h
theorem S_X10_areLaws_15 {X : CX} {d : Nat} {x1 x2 : Int} {I R : PF} {Q : PV → PF → PF → Prop} (c1 : -2147483648 ≤ x2 ∧ x2 < 2147483648) (c2 : -2147483648 ≤ x1 ∧ x1 < 2147483648) (h1 : x1 ≤ x2 → PN X d mX10_areLaws 56 [] [] I R Q) (h2 : x2 < x1 → PN X d mX10_areLaws 20 [(2, 64), (0, x1), (0, x2)] [] I R Q) : PN X d mX10_areLaws 15 [(2, 64), (0, x1), (0, x2)] [] I R Q := by
  refine P_iload_n (n := 2) (q := 16) rfl rfl (by decide +kernel) ?_
  refine P_iload_n (n := 1) (q := 17) rfl rfl (by decide +kernel) ?_
  refine B_icmp_ge (off := 39) (t := 56) (q := 20) c1 c2 (by decide) rfl (by decide +kernel) ?_ ?_
  · exact fun g9 => (PW_sub (ls' := []) trivial (h1 g9))
  · exact fun g9 => (h2 g9)
theorem S_X10_areLaws_20 {X : CX} {d : Nat} {x1 x2 t1 : Int} {I R : PF} {Q : PV → PF → PF → Prop} (hs : Shp R) (b1 : (0 : Int) ≤ x2 ∧ x2 < 1600) (r1 : R 64 8 = t1) (k1 : kd MF t1 = 6) (c1 : -2147483648 ≤ (I 65 x2) ∧ (I 65 x2) < 2147483648) (c2 : -2147483648 ≤ (I t1 5) ∧ (I t1 5) < 2147483648) (h1 : (I 65 x2) < (I t1 5) → PN X d mX10_areLaws 50 [(2, 64), (0, x1), (0, x2)] [] I R Q) (h2 : (I t1 5) ≤ (I 65 x2) → PN X d mX10_areLaws 36 [(2, 64), (0, x1), (0, x2)] [] I R Q) : PN X d mX10_areLaws 20 [(2, 64), (0, x1), (0, x2)] [] I R Q := by
  refine P_aload_n (n := 0) (q := 21) rfl rfl (by decide +kernel) ?_
  refine B_getfR (q := 24) fX10_9 kM64 (rM64_0 hs) rfl (by decide +kernel) ?_
  refine P_iload_n (n := 2) (q := 25) rfl rfl (by decide +kernel) ?_
  refine B_iaload (q := 26) kM65 nM65 (by decide) b1 rfl (by decide +kernel) ?_
  refine P_aload_n (n := 0) (q := 27) rfl rfl (by decide +kernel) ?_
  refine B_getfR (q := 30) fX10_54 kM64 r1 rfl (by decide +kernel) ?_
  refine P_getf (q := 33) fX10_148 k1 rfl (by decide +kernel) ?_
  refine B_icmp_lt (off := 17) (t := 50) (q := 36) c1 c2 (by decide) rfl (by decide +kernel) ?_ ?_
  · exact fun g9 => (h1 g9)
  · exact fun g9 => (h2 g9)
theorem S_X10_areLaws_36 {X : CX} {d : Nat} {x1 x2 : Int} {I R : PF} {Q : PV → PF → PF → Prop} (hs : Shp R) (b1 : (0 : Int) ≤ x2 ∧ x2 < 1600) (c1 : -2147483648 ≤ (I 65 x2) ∧ (I 65 x2) < 2147483648) (h1 : (I 65 x2) = 255 → PN X d mX10_areLaws 50 [(2, 64), (0, x1), (0, x2)] [] I R Q) (h2 : (I 65 x2) ≠ 255 → PN X d mX10_areLaws 48 [] [] I R Q) : PN X d mX10_areLaws 36 [(2, 64), (0, x1), (0, x2)] [] I R Q := by
  refine P_aload_n (n := 0) (q := 37) rfl rfl (by decide +kernel) ?_
  refine B_getfR (q := 40) fX10_9 kM64 (rM64_0 hs) rfl (by decide +kernel) ?_
  refine P_iload_n (n := 2) (q := 41) rfl rfl (by decide +kernel) ?_
  refine B_iaload (q := 42) kM65 nM65 (by decide) b1 rfl (by decide +kernel) ?_
  refine P_sipush (n := 255) (q := 45) rfl rfl (by decide +kernel) ?_
  refine B_icmp_eq (off := 5) (t := 50) (q := 48) c1 ⟨by decide, by decide⟩ (by decide) rfl (by decide +kernel) ?_ ?_
  · exact fun g9 => (h1 g9)
  · exact fun g9 => (PW_sub (ls' := []) trivial (h2 g9))
theorem S_X10_areLaws_48 {X : CX} {d : Nat} {I R : PF} {Q : PV → PF → PF → Prop} (h : Q (0, 0) I R) : PN X d mX10_areLaws 48 [] [] I R Q := by
  refine P_iconst (n := 0) (q := 49) rfl (by decide +kernel) ?_
  refine P_zret rfl (Or.inl rfl) (by decide +kernel) h
theorem S_X10_areLaws_50 {X : CX} {d : Nat} {x1 x2 : Int} {I R : PF} {Q : PV → PF → PF → Prop} (h : PN X d mX10_areLaws 15 [(2, 64), (0, x1), (0, (x2 + 1))] [] I R Q) : PN X d mX10_areLaws 50 [(2, 64), (0, x1), (0, x2)] [] I R Q := by
  refine P_iinc (n := 2) (a := 1) (by decide) rfl (q := 53) rfl (by decide +kernel) ?_
  refine P_goto (off := (-38)) (t := 15) (by decide) (by decide +kernel) ?_
  exact h
theorem S_X10_areLaws_56 {X : CX} {d : Nat} {I R : PF} {Q : PV → PF → PF → Prop} (h : Q (0, 1) I R) : PN X d mX10_areLaws 56 [] [] I R Q := by
  refine P_iconst (n := 1) (q := 57) rfl (by decide +kernel) ?_
  refine P_zret rfl (Or.inr rfl) (by decide +kernel) h
theorem S_X10_ask_0 {X : CX} {d d1 : Nat} {I R : PF} {Q Q1 : PV → PF → PF → Prop} (e1 : d1 + 1 ≤ d) (hc : CN X d1 mX10_takeTape [(2, 64)] I R Q1) (h : ∀ z I2 R2, Q1 (0, z) I2 R2 → PN X d mX10_ask 4 [(2, 64)] [(0, z)] I2 R2 Q) : PN X d mX10_ask 0 [(2, 64)] [] I R Q := by
  refine P_aload_n (n := 0) (q := 1) rfl rfl (by decide +kernel) ?_
  refine P_invV (As := []) (q := 4) oX10_takeTape rfl kM64 kX10_119 e1 hMF (Nat.le_of_ble_eq_true rfl) hc rfl (by decide +kernel) (fun z I2 R2 hq => ?_)
  exact (h z I2 R2 hq)
theorem S_X10_ask_4 {X : CX} {d d1 : Nat} {o0 : Int} {I R : PF} {Q Q1 : PV → PF → PF → Prop} (e1 : d1 + 1 ≤ d) (hc : CN X d1 mX10_isTold [(2, 64)] I R Q1) (h : ∀ z I2 R2, Q1 (0, z) I2 R2 → PN X d mX10_ask 9 [(2, 64), (0, o0)] [(0, z)] I2 R2 Q) : PN X d mX10_ask 4 [(2, 64)] [(0, o0)] I R Q := by
  refine P_istore_n (n := 1) (by decide) (q := 5) rfl (by decide +kernel) ?_
  refine P_aload_n (n := 0) (q := 6) rfl rfl (by decide +kernel) ?_
  refine P_invV (As := []) (q := 9) oX10_isTold rfl kM64 kX10_208 e1 hMF (Nat.le_of_ble_eq_true rfl) hc rfl (by decide +kernel) (fun z I2 R2 hq => ?_)
  exact (h z I2 R2 hq)
theorem S_X10_ask_9 {X : CX} {d : Nat} {x1 o0 : Int} {I R : PF} {Q : PV → PF → PF → Prop} (c1 : -2147483648 ≤ o0 ∧ o0 < 2147483648) (h1 : o0 ≠ 0 → PN X d mX10_ask 16 [(2, 64), (0, x1)] [] I R Q) (h2 : o0 = 0 → PN X d mX10_ask 12 [] [] I R Q) : PN X d mX10_ask 9 [(2, 64), (0, x1)] [(0, o0)] I R Q := by
  refine B_if_ne (off := 7) (t := 16) (q := 12) c1 (by decide) rfl (by decide +kernel) ?_ ?_
  · exact fun g9 => (h1 g9)
  · exact fun g9 => (PW_sub (ls' := []) trivial (h2 g9))
theorem S_X10_ask_12 {X : CX} {d : Nat} {I R : PF} {Q : PV → PF → PF → Prop} (h : Q (1, (-1000000000000000)) I R) : PN X d mX10_ask 12 [] [] I R Q := by
  refine P_ldc2 (ix := 341) (v := (-1000000000000000)) (x := (-1000000000000000)) (q := 15) rfl (tGp5 82 rfl rfl) rfl (by decide +kernel) ?_
  refine P_lret rfl (by decide +kernel) h
theorem S_X10_ask_16 {X : CX} {d d1 : Nat} {x1 : Int} {I R : PF} {Q Q1 : PV → PF → PF → Prop} (hs : Shp R) (e1 : d1 + 1 ≤ d) (hc : CN X d1 mX3_readQuestion [(2, 71), (0, x1), (2, 68)] I R Q1) (h : ∀ z I2 R2, Q1 (2, z) I2 R2 → PN X d mX10_ask 28 [(2, 64)] [(2, z)] I2 R2 Q) : PN X d mX10_ask 16 [(2, 64), (0, x1)] [] I R Q := by
  refine P_aload_n (n := 0) (q := 17) rfl rfl (by decide +kernel) ?_
  refine B_getfR (q := 20) fX10_47 kM64 (rM64_7 hs) rfl (by decide +kernel) ?_
  refine P_iload_n (n := 1) (q := 21) rfl rfl (by decide +kernel) ?_
  refine P_aload_n (n := 0) (q := 22) rfl rfl (by decide +kernel) ?_
  refine B_getfR (q := 25) fX10_38 kM64 (rM64_6 hs) rfl (by decide +kernel) ?_
  refine P_invV (As := [(0, x1), (2, 68)]) (q := 28) oX3_readQuestion rfl kM71 kX10_343 e1 hMF (Nat.le_of_ble_eq_true rfl) hc rfl (by decide +kernel) (fun z I2 R2 hq => ?_)
  exact (PW_sub (ls' := [(2, 64)]) ⟨Or.inr rfl, trivial⟩ (h z I2 R2 hq))
theorem S_X10_ask_28 {X : CX} {d d1 : Nat} {s0 : Int} {I R : PF} {Q Q1 : PV → PF → PF → Prop} (e1 : d1 + 1 ≤ d) (hc : CN X d1 mX10_keepFault [(2, 64)] I R Q1) (h : ∀ z I2 R2, Q1 (9, z) I2 R2 → PN X d mX10_ask 33 [(2, 64), (9, 0), (2, s0)] [] I2 R2 Q) : PN X d mX10_ask 28 [(2, 64)] [(2, s0)] I R Q := by
  refine P_astore_n (n := 2) (by decide) (q := 29) rfl (by decide +kernel) ?_
  refine P_aload_n (n := 0) (q := 30) rfl rfl (by decide +kernel) ?_
  refine P_invV (As := []) (q := 33) oX10_keepFault rfl kM64 kX10_127 e1 hMF (Nat.le_of_ble_eq_true rfl) hc rfl (by decide +kernel) (fun z I2 R2 hq => ?_)
  exact (h z I2 R2 hq)
theorem S_X10_ask_33 {X : CX} {d : Nat} {a2 : Int} {I R : PF} {Q : PV → PF → PF → Prop} (c1 : -2147483648 ≤ (I 64 3) ∧ (I 64 3) < 2147483648) (h1 : (I 64 3) = 0 → PN X d mX10_ask 44 [(2, 64), (9, 0), (2, a2)] [] I R Q) (h2 : (I 64 3) ≠ 0 → PN X d mX10_ask 40 [] [] I R Q) : PN X d mX10_ask 33 [(2, 64), (9, 0), (2, a2)] [] I R Q := by
  refine P_aload_n (n := 0) (q := 34) rfl rfl (by decide +kernel) ?_
  refine P_getf (q := 37) fX10_20 kM64 rfl (by decide +kernel) ?_
  refine B_if_eq (off := 7) (t := 44) (q := 40) c1 (by decide) rfl (by decide +kernel) ?_ ?_
  · exact fun g9 => (h1 g9)
  · exact fun g9 => (PW_sub (ls' := []) trivial (h2 g9))
theorem S_X10_ask_40 {X : CX} {d : Nat} {I R : PF} {Q : PV → PF → PF → Prop} (h : Q (1, (-1000000000000000)) I R) : PN X d mX10_ask 40 [] [] I R Q := by
  refine P_ldc2 (ix := 341) (v := (-1000000000000000)) (x := (-1000000000000000)) (q := 43) rfl (tGp5 82 rfl rfl) rfl (by decide +kernel) ?_
  refine P_lret rfl (by decide +kernel) h
theorem S_X10_ask_44 {X : CX} {d d1 : Nat} {a2 t1 : Int} {I R : PF} {Q Q1 : PV → PF → PF → Prop} (hs : Shp R) (r1 : R 64 8 = t1) (e1 : d1 + 1 ≤ d) (hc : CN X d1 mX1_prepare [(2, 127), (2, t1), (2, 111), (0, (I 111 0)), (2, 0)] I R Q1) (h : ∀ z I2 R2, Q1 (9, z) I2 R2 → PN X d mX10_ask 67 [(2, 64), (9, 0), (2, a2)] [] I2 R2 Q) : PN X d mX10_ask 44 [(2, 64), (9, 0), (2, a2)] [] I R Q := by
  refine P_aload_n (n := 0) (q := 45) rfl rfl (by decide +kernel) ?_
  refine B_getfR (q := 48) fX10_85 kM64 (rM64_13 hs) rfl (by decide +kernel) ?_
  refine P_aload_n (n := 0) (q := 49) rfl rfl (by decide +kernel) ?_
  refine B_getfR (q := 52) fX10_54 kM64 r1 rfl (by decide +kernel) ?_
  refine P_aload_n (n := 0) (q := 53) rfl rfl (by decide +kernel) ?_
  refine B_getfR (q := 56) fX10_73 kM64 (rM64_11 hs) rfl (by decide +kernel) ?_
  refine P_aload_n (n := 0) (q := 57) rfl rfl (by decide +kernel) ?_
  refine B_getfR (q := 60) fX10_73 kM64 (rM64_11 hs) rfl (by decide +kernel) ?_
  refine P_getf (q := 63) fX10_157 kM111 rfl (by decide +kernel) ?_
  refine P_anull (q := 64) rfl (by decide +kernel) ?_
  refine P_invV (As := [(2, t1), (2, 111), (0, (I 111 0)), (2, 0)]) (q := 67) oX1_prepare rfl kM127 kX10_215 e1 hMF (Nat.le_of_ble_eq_true rfl) hc rfl (by decide +kernel) (fun z I2 R2 hq => ?_)
  exact (h z I2 R2 hq)
theorem S_X10_ask_67 {X : CX} {d d1 : Nat} {a2 : Int} {I R : PF} {Q Q1 : PV → PF → PF → Prop} (hs : Shp R) (e1 : d1 + 1 ≤ d) (hc : CN X d1 mX2_reads [(2, 68), (0, 12)] I R Q1) (h : ∀ z I2 R2, Q1 (0, z) I2 R2 → PN X d mX10_ask 76 [(2, 64), (9, 0), (2, a2)] [(0, z)] I2 R2 Q) : PN X d mX10_ask 67 [(2, 64), (9, 0), (2, a2)] [] I R Q := by
  refine P_aload_n (n := 0) (q := 68) rfl rfl (by decide +kernel) ?_
  refine B_getfR (q := 71) fX10_38 kM64 (rM64_6 hs) rfl (by decide +kernel) ?_
  refine P_bipush (n := 12) (q := 73) rfl rfl (by decide +kernel) ?_
  refine P_invV (As := [(0, 12)]) (q := 76) oX2_reads rfl kM68 kX10_347 e1 hMF (Nat.le_of_ble_eq_true rfl) hc rfl (by decide +kernel) (fun z I2 R2 hq => ?_)
  exact (h z I2 R2 hq)
theorem S_X10_ask_76 {X : CX} {d : Nat} {a2 o0 : Int} {I R : PF} {Q : PV → PF → PF → Prop} (c1 : -2147483648 ≤ o0 ∧ o0 < 2147483648) (h1 : o0 = 0 → PN X d mX10_ask 86 [(2, 64), (9, 0), (2, a2)] [] I R Q) (h2 : o0 ≠ 0 → PN X d mX10_ask 79 [(2, 64), (9, 0), (2, a2)] [] I R Q) : PN X d mX10_ask 76 [(2, 64), (9, 0), (2, a2)] [(0, o0)] I R Q := by
  refine B_if_eq (off := 10) (t := 86) (q := 79) c1 (by decide) rfl (by decide +kernel) ?_ ?_
  · exact fun g9 => (h1 g9)
  · exact fun g9 => (h2 g9)
theorem S_X10_ask_79 {X : CX} {d d1 : Nat} {a2 : Int} {I R : PF} {Q Q1 : PV → PF → PF → Prop} (hs : Shp R) (e1 : d1 + 1 ≤ d) (hc : CN X d1 mX1_tally [(2, 127)] I R Q1) (h : ∀ z I2 R2, Q1 (9, z) I2 R2 → PN X d mX10_ask 86 [(2, 64), (9, 0), (2, a2)] [] I2 R2 Q) : PN X d mX10_ask 79 [(2, 64), (9, 0), (2, a2)] [] I R Q := by
  refine P_aload_n (n := 0) (q := 80) rfl rfl (by decide +kernel) ?_
  refine B_getfR (q := 83) fX10_85 kM64 (rM64_13 hs) rfl (by decide +kernel) ?_
  refine P_invV (As := []) (q := 86) oX1_tally rfl kM127 kX10_350 e1 hMF (Nat.le_of_ble_eq_true rfl) hc rfl (by decide +kernel) (fun z I2 R2 hq => ?_)
  exact (h z I2 R2 hq)
theorem S_X10_ask_86 {X : CX} {d : Nat} {a2 : Int} {I R : PF} {Q : PV → PF → PF → Prop} (c1 : 0 ≤ a2 ∧ a2 ≤ 37) (h1 : a2 = 32 → PN X d mX10_ask 107 [(2, 64), (9, 0), (2, a2)] [] I R Q) (h2 : a2 ≠ 32 → PN X d mX10_ask 93 [(2, 64), (9, 0), (2, a2)] [] I R Q) : PN X d mX10_ask 86 [(2, 64), (9, 0), (2, a2)] [] I R Q := by
  refine P_aload_n (n := 2) (q := 87) rfl rfl (by decide +kernel) ?_
  refine P_gets (o := 32) (q := 90) (fun _ _ h => zW (i := 31) (by decide) h) ⟨by decide, by decide⟩ gX10_353 rfl (by decide +kernel) ?_
  refine P_acmp_eq (off := 17) (t := 107) (q := 93) c1 ⟨by decide, by decide⟩ (by decide) rfl (by decide +kernel) ?_ ?_
  · exact fun g9 => (h1 g9)
  · exact fun g9 => (h2 g9)
theorem S_X10_ask_93 {X : CX} {d : Nat} {a2 : Int} {I R : PF} {Q : PV → PF → PF → Prop} (c1 : 0 ≤ a2 ∧ a2 ≤ 37) (h1 : a2 = 33 → PN X d mX10_ask 107 [(2, 64), (9, 0), (2, a2)] [] I R Q) (h2 : a2 ≠ 33 → PN X d mX10_ask 100 [(2, 64), (9, 0), (2, a2)] [] I R Q) : PN X d mX10_ask 93 [(2, 64), (9, 0), (2, a2)] [] I R Q := by
  refine P_aload_n (n := 2) (q := 94) rfl rfl (by decide +kernel) ?_
  refine P_gets (o := 33) (q := 97) (fun _ _ h => zW (i := 32) (by decide) h) ⟨by decide, by decide⟩ gX10_357 rfl (by decide +kernel) ?_
  refine P_acmp_eq (off := 10) (t := 107) (q := 100) c1 ⟨by decide, by decide⟩ (by decide) rfl (by decide +kernel) ?_ ?_
  · exact fun g9 => (h1 g9)
  · exact fun g9 => (h2 g9)
theorem S_X10_ask_100 {X : CX} {d : Nat} {a2 : Int} {I R : PF} {Q : PV → PF → PF → Prop} (c1 : 0 ≤ a2 ∧ a2 ≤ 37) (h1 : a2 ≠ 34 → PN X d mX10_ask 113 [(2, 64), (9, 0), (2, a2)] [] I R Q) (h2 : a2 = 34 → PN X d mX10_ask 107 [(2, 64), (9, 0), (2, a2)] [] I R Q) : PN X d mX10_ask 100 [(2, 64), (9, 0), (2, a2)] [] I R Q := by
  refine P_aload_n (n := 2) (q := 101) rfl rfl (by decide +kernel) ?_
  refine P_gets (o := 34) (q := 104) (fun _ _ h => zW (i := 33) (by decide) h) ⟨by decide, by decide⟩ gX10_360 rfl (by decide +kernel) ?_
  refine P_acmp_ne (off := 9) (t := 113) (q := 107) c1 ⟨by decide, by decide⟩ (by decide) rfl (by decide +kernel) ?_ ?_
  · exact fun g9 => (h1 g9)
  · exact fun g9 => (h2 g9)
theorem S_X10_ask_107 {X : CX} {d d1 : Nat} {a2 : Int} {I R : PF} {Q Q1 : PV → PF → PF → Prop} (e1 : d1 + 1 ≤ d) (hc : CN X d1 mX10_answerTest [(2, 64), (2, a2)] I R Q1) (h : ∀ z I2 R2, Q1 (1, z) I2 R2 → PN X d mX10_ask 112 [] [(1, z)] I2 R2 Q) : PN X d mX10_ask 107 [(2, 64), (9, 0), (2, a2)] [] I R Q := by
  refine P_aload_n (n := 0) (q := 108) rfl rfl (by decide +kernel) ?_
  refine P_aload_n (n := 2) (q := 109) rfl rfl (by decide +kernel) ?_
  refine P_invV (As := [(2, a2)]) (q := 112) oX10_answerTest rfl kM64 kX10_363 e1 hMF (Nat.le_of_ble_eq_true rfl) hc rfl (by decide +kernel) (fun z I2 R2 hq => ?_)
  exact (PW_sub (ls' := []) trivial (h z I2 R2 hq))
theorem S_X10_ask_112 {X : CX} {d : Nat} {v0 : Int} {I R : PF} {Q : PV → PF → PF → Prop} (h : Q (1, v0) I R) : PN X d mX10_ask 112 [] [(1, v0)] I R Q := by
  refine P_lret rfl (by decide +kernel) h
theorem S_X10_ask_113 {X : CX} {d d1 : Nat} {a2 : Int} {I R : PF} {Q Q1 : PV → PF → PF → Prop} (e1 : d1 + 1 ≤ d) (hc : CN X d1 mX10_answerSum [(2, 64), (2, a2)] I R Q1) (h : ∀ z I2 R2, Q1 (1, z) I2 R2 → PN X d mX10_ask 118 [] [(1, z)] I2 R2 Q) : PN X d mX10_ask 113 [(2, 64), (9, 0), (2, a2)] [] I R Q := by
  refine P_aload_n (n := 0) (q := 114) rfl rfl (by decide +kernel) ?_
  refine P_aload_n (n := 2) (q := 115) rfl rfl (by decide +kernel) ?_
  refine P_invV (As := [(2, a2)]) (q := 118) oX10_answerSum rfl kM64 kX10_367 e1 hMF (Nat.le_of_ble_eq_true rfl) hc rfl (by decide +kernel) (fun z I2 R2 hq => ?_)
  exact (PW_sub (ls' := []) trivial (h z I2 R2 hq))
theorem S_X10_ask_118 {X : CX} {d : Nat} {v0 : Int} {I R : PF} {Q : PV → PF → PF → Prop} (h : Q (1, v0) I R) : PN X d mX10_ask 118 [] [(1, v0)] I R Q := by
  refine P_lret rfl (by decide +kernel) h
theorem S_X10_asked_0 {X : CX} {d : Nat} {x1 : Int} {I R : PF} {Q : PV → PF → PF → Prop} (c1 : -2147483648 ≤ (I 64 17) ∧ (I 64 17) < 2147483648) (h1 : (I 64 17) = 0 → PN X d mX10_asked 16 [] [] I R Q) (h2 : (I 64 17) ≠ 0 → PN X d mX10_asked 7 [(2, 64), (0, x1)] [] I R Q) : PN X d mX10_asked 0 [(2, 64), (0, x1)] [] I R Q := by
  refine P_aload_n (n := 0) (q := 1) rfl rfl (by decide +kernel) ?_
  refine P_getf (q := 4) fX10_106 kM64 rfl (by decide +kernel) ?_
  refine B_if_eq (off := 12) (t := 16) (q := 7) c1 (by decide) rfl (by decide +kernel) ?_ ?_
  · exact fun g9 => (PW_sub (ls' := []) trivial (h1 g9))
  · exact fun g9 => (h2 g9)
theorem S_X10_asked_7 {X : CX} {d : Nat} {x1 : Int} {I R : PF} {Q : PV → PF → PF → Prop} (c1 : -2147483648 ≤ x1 ∧ x1 < 2147483648) (h1 : x1 < 0 → PN X d mX10_asked 16 [] [] I R Q) (h2 : 0 ≤ x1 → PN X d mX10_asked 11 [(2, 64), (0, x1)] [] I R Q) : PN X d mX10_asked 7 [(2, 64), (0, x1)] [] I R Q := by
  refine P_iload_n (n := 1) (q := 8) rfl rfl (by decide +kernel) ?_
  refine B_if_lt (off := 8) (t := 16) (q := 11) c1 (by decide) rfl (by decide +kernel) ?_ ?_
  · exact fun g9 => (PW_sub (ls' := []) trivial (h1 g9))
  · exact fun g9 => (h2 g9)
theorem S_X10_asked_11 {X : CX} {d : Nat} {x1 : Int} {I R : PF} {Q : PV → PF → PF → Prop} (c1 : -2147483648 ≤ x1 ∧ x1 < 2147483648) (h1 : x1 ≤ 1 → PN X d mX10_asked 18 [(2, 64), (0, x1)] [] I R Q) (h2 : 1 < x1 → PN X d mX10_asked 16 [] [] I R Q) : PN X d mX10_asked 11 [(2, 64), (0, x1)] [] I R Q := by
  refine P_iload_n (n := 1) (q := 12) rfl rfl (by decide +kernel) ?_
  refine P_iconst (n := 1) (q := 13) rfl (by decide +kernel) ?_
  refine B_icmp_le (off := 5) (t := 18) (q := 16) c1 ⟨by decide, by decide⟩ (by decide) rfl (by decide +kernel) ?_ ?_
  · exact fun g9 => (h1 g9)
  · exact fun g9 => (PW_sub (ls' := []) trivial (h2 g9))
theorem S_X10_asked_16 {X : CX} {d : Nat} {I R : PF} {Q : PV → PF → PF → Prop} (h : Q (0, (-1)) I R) : PN X d mX10_asked 16 [] [] I R Q := by
  refine P_iconst (n := (-1)) (q := 17) rfl (by decide +kernel) ?_
  refine P_iret rfl (by decide +kernel) h
theorem S_X10_asked_18 {X : CX} {d : Nat} {x1 : Int} {I R : PF} {Q : PV → PF → PF → Prop} (h : PN X d mX10_asked 25 [(2, 64), (0, x1), (0, 0), (0, (-1)), (0, 0)] [] I R Q) : PN X d mX10_asked 18 [(2, 64), (0, x1)] [] I R Q := by
  refine P_iconst (n := 0) (q := 19) rfl (by decide +kernel) ?_
  refine P_istore_n (n := 2) (by decide) (q := 20) rfl (by decide +kernel) ?_
  refine P_iconst (n := (-1)) (q := 21) rfl (by decide +kernel) ?_
  refine P_istore_n (n := 3) (by decide) (q := 22) rfl (by decide +kernel) ?_
  refine P_iconst (n := 0) (q := 23) rfl (by decide +kernel) ?_
  refine P_istore (n := 4) (by decide) (q := 25) rfl (by decide +kernel) ?_
  exact h
theorem S_X10_asked_25 {X : CX} {d : Nat} {x1 x2 x3 x4 : Int} {I R : PF} {Q : PV → PF → PF → Prop} (c1 : -2147483648 ≤ x4 ∧ x4 < 2147483648) (c2 : -2147483648 ≤ (I 64 17) ∧ (I 64 17) < 2147483648) (h1 : (I 64 17) ≤ x4 → PN X d mX10_asked 63 [(9, 0), (0, x1), (0, x2), (0, x3)] [] I R Q) (h2 : x4 < (I 64 17) → PN X d mX10_asked 34 [(2, 64), (0, x1), (0, x2), (0, x3), (0, x4)] [] I R Q) : PN X d mX10_asked 25 [(2, 64), (0, x1), (0, x2), (0, x3), (0, x4)] [] I R Q := by
  refine P_iload (n := 4) (q := 27) rfl rfl (by decide +kernel) ?_
  refine P_aload_n (n := 0) (q := 28) rfl rfl (by decide +kernel) ?_
  refine P_getf (q := 31) fX10_106 kM64 rfl (by decide +kernel) ?_
  refine B_icmp_ge (off := 32) (t := 63) (q := 34) c1 c2 (by decide) rfl (by decide +kernel) ?_ ?_
  · exact fun g9 => (PW_sub (ls' := [(9, 0), (0, x1), (0, x2), (0, x3)]) ⟨Or.inl rfl, Or.inr rfl, Or.inr rfl, Or.inr rfl, trivial⟩ (h1 g9))
  · exact fun g9 => (h2 g9)
theorem S_X10_asked_34 {X : CX} {d d1 : Nat} {x1 x2 x3 x4 : Int} {I R : PF} {Q Q1 : PV → PF → PF → Prop} (e1 : d1 + 1 ≤ d) (hc : CN X d1 mX10_wears [(2, 64), (0, x4)] I R Q1) (h : ∀ z I2 R2, Q1 (0, z) I2 R2 → PN X d mX10_asked 40 [(2, 64), (0, x1), (0, x2), (0, x3), (0, x4)] [(0, z)] I2 R2 Q) : PN X d mX10_asked 34 [(2, 64), (0, x1), (0, x2), (0, x3), (0, x4)] [] I R Q := by
  refine P_aload_n (n := 0) (q := 35) rfl rfl (by decide +kernel) ?_
  refine P_iload (n := 4) (q := 37) rfl rfl (by decide +kernel) ?_
  refine P_invV (As := [(0, x4)]) (q := 40) oX10_wears rfl kM64 kX10_303 e1 hMF (Nat.le_of_ble_eq_true rfl) hc rfl (by decide +kernel) (fun z I2 R2 hq => ?_)
  exact (h z I2 R2 hq)
theorem S_X10_asked_40 {X : CX} {d d1 : Nat} {x1 x2 x3 x4 o0 : Int} {I R : PF} {Q Q1 : PV → PF → PF → Prop} (e1 : d1 + 1 ≤ d) (hc : CN X d1 mJ6_bitCount_0f7a4 [(0, o0)] I R Q1) (h : ∀ z I2 R2, Q1 (0, z) I2 R2 → PN X d mX10_asked 43 [(2, 64), (0, x1), (0, x2), (0, x3), (0, x4)] [(0, z)] I2 R2 Q) : PN X d mX10_asked 40 [(2, 64), (0, x1), (0, x2), (0, x3), (0, x4)] [(0, o0)] I R Q := by
  refine P_invS (As := [(0, o0)]) (q := 43) oJ6_bitCount_0f7a4 rfl (Or.inl kX10_306) e1 hMF (Nat.le_of_ble_eq_true rfl) hc rfl (by decide +kernel) (fun z I2 R2 hq => ?_)
  exact (h z I2 R2 hq)
theorem S_X10_asked_43 {X : CX} {d : Nat} {x1 x2 x3 x4 o0 : Int} {I R : PF} {Q : PV → PF → PF → Prop} (c1 : -2147483648 ≤ o0 ∧ o0 < 2147483648) (c2 : -2147483648 ≤ x3 ∧ x3 < 2147483648) (h1 : o0 ≤ x3 → PN X d mX10_asked 57 [(2, 64), (0, x1), (0, x2), (0, x3), (0, x4)] [] I R Q) (h2 : x3 < o0 → PN X d mX10_asked 51 [(2, 64), (0, x1), (9, 0), (9, 0), (0, x4), (0, o0)] [] I R Q) : PN X d mX10_asked 43 [(2, 64), (0, x1), (0, x2), (0, x3), (0, x4)] [(0, o0)] I R Q := by
  refine P_istore (n := 5) (by decide) (q := 45) rfl (by decide +kernel) ?_
  refine P_iload (n := 5) (q := 47) rfl rfl (by decide +kernel) ?_
  refine P_iload_n (n := 3) (q := 48) rfl rfl (by decide +kernel) ?_
  refine B_icmp_le (off := 9) (t := 57) (q := 51) c1 c2 (by decide) rfl (by decide +kernel) ?_ ?_
  · exact fun g9 => (PW_sub (ls' := [(2, 64), (0, x1), (0, x2), (0, x3), (0, x4)]) ⟨Or.inr rfl, Or.inr rfl, Or.inr rfl, Or.inr rfl, Or.inr rfl, trivial⟩ (h1 g9))
  · exact fun g9 => (PW_sub (ls' := [(2, 64), (0, x1), (9, 0), (9, 0), (0, x4), (0, o0)]) ⟨Or.inr rfl, Or.inr rfl, Or.inl rfl, Or.inl rfl, Or.inr rfl, Or.inr rfl, trivial⟩ (h2 g9))
theorem S_X10_asked_51 {X : CX} {d : Nat} {x1 x4 x5 : Int} {I R : PF} {Q : PV → PF → PF → Prop} (h : PN X d mX10_asked 57 [(2, 64), (0, x1), (0, x4), (0, x5), (0, x4)] [] I R Q) : PN X d mX10_asked 51 [(2, 64), (0, x1), (9, 0), (9, 0), (0, x4), (0, x5)] [] I R Q := by
  refine P_iload (n := 5) (q := 53) rfl rfl (by decide +kernel) ?_
  refine P_istore_n (n := 3) (by decide) (q := 54) rfl (by decide +kernel) ?_
  refine P_iload (n := 4) (q := 56) rfl rfl (by decide +kernel) ?_
  refine P_istore_n (n := 2) (by decide) (q := 57) rfl (by decide +kernel) ?_
  exact (PW_sub (ls' := [(2, 64), (0, x1), (0, x4), (0, x5), (0, x4)]) ⟨Or.inr rfl, Or.inr rfl, Or.inr rfl, Or.inr rfl, Or.inr rfl, trivial⟩ h)
theorem S_X10_asked_57 {X : CX} {d : Nat} {x1 x2 x3 x4 : Int} {I R : PF} {Q : PV → PF → PF → Prop} (h : PN X d mX10_asked 25 [(2, 64), (0, x1), (0, x2), (0, x3), (0, (x4 + 1))] [] I R Q) : PN X d mX10_asked 57 [(2, 64), (0, x1), (0, x2), (0, x3), (0, x4)] [] I R Q := by
  refine P_iinc (n := 4) (a := 1) (by decide) rfl (q := 60) rfl (by decide +kernel) ?_
  refine P_goto (off := (-35)) (t := 25) (by decide) (by decide +kernel) ?_
  exact (PW_sub (ls' := [(2, 64), (0, x1), (0, x2), (0, x3), (0, (x4 + 1))]) ⟨Or.inr rfl, Or.inr rfl, Or.inr rfl, Or.inr rfl, Or.inr rfl, trivial⟩ h)
theorem S_X10_asked_63 {X : CX} {d : Nat} {x1 x2 x3 : Int} {I R : PF} {Q : PV → PF → PF → Prop} (c1 : -2147483648 ≤ x1 ∧ x1 < 2147483648) (h1 : x1 ≠ 0 → PN X d mX10_asked 71 [(9, 0), (9, 0), (9, 0), (0, x3)] [] I R Q) (h2 : x1 = 0 → PN X d mX10_asked 67 [(9, 0), (9, 0), (0, x2)] [] I R Q) : PN X d mX10_asked 63 [(9, 0), (0, x1), (0, x2), (0, x3)] [] I R Q := by
  refine P_iload_n (n := 1) (q := 64) rfl rfl (by decide +kernel) ?_
  refine B_if_ne (off := 7) (t := 71) (q := 67) c1 (by decide) rfl (by decide +kernel) ?_ ?_
  · exact fun g9 => (PW_sub (ls' := [(9, 0), (9, 0), (9, 0), (0, x3)]) ⟨Or.inl rfl, Or.inl rfl, Or.inl rfl, Or.inr rfl, trivial⟩ (h1 g9))
  · exact fun g9 => (PW_sub (ls' := [(9, 0), (9, 0), (0, x2)]) ⟨Or.inl rfl, Or.inl rfl, Or.inr rfl, trivial⟩ (h2 g9))
theorem S_X10_asked_67 {X : CX} {d : Nat} {x2 : Int} {I R : PF} {Q : PV → PF → PF → Prop} (h : PN X d mX10_asked 72 [] [(0, x2)] I R Q) : PN X d mX10_asked 67 [(9, 0), (9, 0), (0, x2)] [] I R Q := by
  refine P_iload_n (n := 2) (q := 68) rfl rfl (by decide +kernel) ?_
  refine P_goto (off := 4) (t := 72) (by decide) (by decide +kernel) ?_
  exact (PW_sub (ls' := []) trivial h)
theorem S_X10_asked_71 {X : CX} {d : Nat} {x3 : Int} {I R : PF} {Q : PV → PF → PF → Prop} (h : PN X d mX10_asked 72 [] [(0, x3)] I R Q) : PN X d mX10_asked 71 [(9, 0), (9, 0), (9, 0), (0, x3)] [] I R Q := by
  refine P_iload_n (n := 3) (q := 72) rfl rfl (by decide +kernel) ?_
  exact (PW_sub (ls' := []) trivial h)
theorem S_X10_asked_72 {X : CX} {d : Nat} {o0 : Int} {I R : PF} {Q : PV → PF → PF → Prop} (h : Q (0, o0) I R) : PN X d mX10_asked 72 [] [(0, o0)] I R Q := by
  refine P_iret rfl (by decide +kernel) h
theorem S_X10_canStand_0 {X : CX} {d d1 : Nat} {x1 x2 x3 t1 : Int} {I R : PF} {Q Q1 : PV → PF → PF → Prop} (r1 : R 64 8 = t1) (e1 : d1 + 1 ≤ d) (hc : CN X d1 mX6_within [(2, t1), (0, x2), (0, x3)] I R Q1) (k1 : kd MF t1 = 6) (h : ∀ z I2 R2, Q1 (0, z) I2 R2 → PN X d mX10_canStand 9 [(2, 64), (0, x1), (0, x2), (0, x3)] [(0, z)] I2 R2 Q) : PN X d mX10_canStand 0 [(2, 64), (0, x1), (0, x2), (0, x3)] [] I R Q := by
  refine P_aload_n (n := 0) (q := 1) rfl rfl (by decide +kernel) ?_
  refine B_getfR (q := 4) fX10_54 kM64 r1 rfl (by decide +kernel) ?_
  refine P_iload_n (n := 2) (q := 5) rfl rfl (by decide +kernel) ?_
  refine P_iload_n (n := 3) (q := 6) rfl rfl (by decide +kernel) ?_
  refine P_invV (As := [(0, x2), (0, x3)]) (q := 9) oX6_within rfl k1 kX10_195 e1 hMF (Nat.le_of_ble_eq_true rfl) hc rfl (by decide +kernel) (fun z I2 R2 hq => ?_)
  exact (h z I2 R2 hq)
theorem S_X10_canStand_9 {X : CX} {d : Nat} {x1 x2 x3 o0 : Int} {I R : PF} {Q : PV → PF → PF → Prop} (c1 : -2147483648 ≤ o0 ∧ o0 < 2147483648) (h1 : o0 = 0 → PN X d mX10_canStand 24 [] [] I R Q) (h2 : o0 ≠ 0 → PN X d mX10_canStand 12 [(2, 64), (0, x1), (0, x2), (0, x3)] [] I R Q) : PN X d mX10_canStand 9 [(2, 64), (0, x1), (0, x2), (0, x3)] [(0, o0)] I R Q := by
  refine B_if_eq (off := 15) (t := 24) (q := 12) c1 (by decide) rfl (by decide +kernel) ?_ ?_
  · exact fun g9 => (PW_sub (ls' := []) trivial (h1 g9))
  · exact fun g9 => (h2 g9)
theorem S_X10_canStand_12 {X : CX} {d d1 : Nat} {x1 x2 x3 t1 : Int} {I R : PF} {Q Q1 : PV → PF → PF → Prop} (r1 : R 64 8 = t1) (e1 : d1 + 1 ≤ d) (hc : CN X d1 mX6_walled [(2, t1), (0, x2), (0, x3)] I R Q1) (k1 : kd MF t1 = 6) (h : ∀ z I2 R2, Q1 (0, z) I2 R2 → PN X d mX10_canStand 21 [(2, 64), (0, x1), (0, x2), (0, x3)] [(0, z)] I2 R2 Q) : PN X d mX10_canStand 12 [(2, 64), (0, x1), (0, x2), (0, x3)] [] I R Q := by
  refine P_aload_n (n := 0) (q := 13) rfl rfl (by decide +kernel) ?_
  refine B_getfR (q := 16) fX10_54 kM64 r1 rfl (by decide +kernel) ?_
  refine P_iload_n (n := 2) (q := 17) rfl rfl (by decide +kernel) ?_
  refine P_iload_n (n := 3) (q := 18) rfl rfl (by decide +kernel) ?_
  refine P_invV (As := [(0, x2), (0, x3)]) (q := 21) oX6_walled rfl k1 kX10_199 e1 hMF (Nat.le_of_ble_eq_true rfl) hc rfl (by decide +kernel) (fun z I2 R2 hq => ?_)
  exact (h z I2 R2 hq)
theorem S_X10_canStand_21 {X : CX} {d : Nat} {x1 x2 x3 o0 : Int} {I R : PF} {Q : PV → PF → PF → Prop} (c1 : -2147483648 ≤ o0 ∧ o0 < 2147483648) (h1 : o0 = 0 → PN X d mX10_canStand 26 [(2, 64), (0, x1), (0, x2), (0, x3)] [] I R Q) (h2 : o0 ≠ 0 → PN X d mX10_canStand 24 [] [] I R Q) : PN X d mX10_canStand 21 [(2, 64), (0, x1), (0, x2), (0, x3)] [(0, o0)] I R Q := by
  refine B_if_eq (off := 5) (t := 26) (q := 24) c1 (by decide) rfl (by decide +kernel) ?_ ?_
  · exact fun g9 => (h1 g9)
  · exact fun g9 => (PW_sub (ls' := []) trivial (h2 g9))
theorem S_X10_canStand_24 {X : CX} {d : Nat} {I R : PF} {Q : PV → PF → PF → Prop} (h : Q (0, 0) I R) : PN X d mX10_canStand 24 [] [] I R Q := by
  refine P_iconst (n := 0) (q := 25) rfl (by decide +kernel) ?_
  refine P_zret rfl (Or.inl rfl) (by decide +kernel) h
theorem S_X10_canStand_26 {X : CX} {d d1 : Nat} {x1 x2 x3 : Int} {I R : PF} {Q Q1 : PV → PF → PF → Prop} (hs : Shp R) (e1 : d1 + 1 ≤ d) (hc : CN X d1 mX8_whoStands [(2, 111), (0, x2), (0, x3)] I R Q1) (h : ∀ z I2 R2, Q1 (0, z) I2 R2 → PN X d mX10_canStand 35 [(9, 0), (0, x1)] [(0, z)] I2 R2 Q) : PN X d mX10_canStand 26 [(2, 64), (0, x1), (0, x2), (0, x3)] [] I R Q := by
  refine P_aload_n (n := 0) (q := 27) rfl rfl (by decide +kernel) ?_
  refine B_getfR (q := 30) fX10_73 kM64 (rM64_11 hs) rfl (by decide +kernel) ?_
  refine P_iload_n (n := 2) (q := 31) rfl rfl (by decide +kernel) ?_
  refine P_iload_n (n := 3) (q := 32) rfl rfl (by decide +kernel) ?_
  refine P_invV (As := [(0, x2), (0, x3)]) (q := 35) oX8_whoStands rfl kM111 kX10_202 e1 hMF (Nat.le_of_ble_eq_true rfl) hc rfl (by decide +kernel) (fun z I2 R2 hq => ?_)
  exact (PW_sub (ls' := [(9, 0), (0, x1)]) ⟨Or.inl rfl, Or.inr rfl, trivial⟩ (h z I2 R2 hq))
theorem S_X10_canStand_35 {X : CX} {d : Nat} {x1 o0 : Int} {I R : PF} {Q : PV → PF → PF → Prop} (c1 : -2147483648 ≤ o0 ∧ o0 < 2147483648) (h1 : o0 = (-1) → PN X d mX10_canStand 49 [] [] I R Q) (h2 : o0 ≠ (-1) → PN X d mX10_canStand 43 [(9, 0), (0, x1), (9, 0), (9, 0), (0, o0)] [] I R Q) : PN X d mX10_canStand 35 [(9, 0), (0, x1)] [(0, o0)] I R Q := by
  refine P_istore (n := 4) (by decide) (q := 37) rfl (by decide +kernel) ?_
  refine P_iload (n := 4) (q := 39) rfl rfl (by decide +kernel) ?_
  refine P_iconst (n := (-1)) (q := 40) rfl (by decide +kernel) ?_
  refine B_icmp_eq (off := 9) (t := 49) (q := 43) c1 ⟨by decide, by decide⟩ (by decide) rfl (by decide +kernel) ?_ ?_
  · exact fun g9 => (PW_sub (ls' := []) trivial (h1 g9))
  · exact fun g9 => (h2 g9)
theorem S_X10_canStand_43 {X : CX} {d : Nat} {x1 x4 : Int} {I R : PF} {Q : PV → PF → PF → Prop} (c1 : -2147483648 ≤ x4 ∧ x4 < 2147483648) (c2 : -2147483648 ≤ x1 ∧ x1 < 2147483648) (h1 : x4 ≠ x1 → PN X d mX10_canStand 53 [] [] I R Q) (h2 : x4 = x1 → PN X d mX10_canStand 49 [] [] I R Q) : PN X d mX10_canStand 43 [(9, 0), (0, x1), (9, 0), (9, 0), (0, x4)] [] I R Q := by
  refine P_iload (n := 4) (q := 45) rfl rfl (by decide +kernel) ?_
  refine P_iload_n (n := 1) (q := 46) rfl rfl (by decide +kernel) ?_
  refine B_icmp_ne (off := 7) (t := 53) (q := 49) c1 c2 (by decide) rfl (by decide +kernel) ?_ ?_
  · exact fun g9 => (PW_sub (ls' := []) trivial (h1 g9))
  · exact fun g9 => (PW_sub (ls' := []) trivial (h2 g9))
theorem S_X10_canStand_49 {X : CX} {d : Nat} {I R : PF} {Q : PV → PF → PF → Prop} (h : PN X d mX10_canStand 54 [] [(0, 1)] I R Q) : PN X d mX10_canStand 49 [] [] I R Q := by
  refine P_iconst (n := 1) (q := 50) rfl (by decide +kernel) ?_
  refine P_goto (off := 4) (t := 54) (by decide) (by decide +kernel) ?_
  exact (PW_sub (ls' := []) trivial h)
theorem S_X10_canStand_53 {X : CX} {d : Nat} {I R : PF} {Q : PV → PF → PF → Prop} (h : PN X d mX10_canStand 54 [] [(0, 0)] I R Q) : PN X d mX10_canStand 53 [] [] I R Q := by
  refine P_iconst (n := 0) (q := 54) rfl (by decide +kernel) ?_
  exact (PW_sub (ls' := []) trivial h)
theorem S_X10_canStand_54 {X : CX} {d : Nat} {o0 : Int} {I R : PF} {Q : PV → PF → PF → Prop} (z1 : o0 = 0 ∨ o0 = 1) (h : Q (0, o0) I R) : PN X d mX10_canStand 54 [] [(0, o0)] I R Q := by
  refine P_zret rfl z1 (by decide +kernel) h
theorem S_X10_canTurn_0 {X : CX} {d d1 : Nat} {x1 : Int} {I R : PF} {Q Q1 : PV → PF → PF → Prop} (e1 : d1 + 1 ≤ d) (hc : CN X d1 mX10_isTold [(2, 64)] I R Q1) (h : ∀ z I2 R2, Q1 (0, z) I2 R2 → PN X d mX10_canTurn 4 [(2, 64), (0, x1)] [(0, z)] I2 R2 Q) : PN X d mX10_canTurn 0 [(2, 64), (0, x1)] [] I R Q := by
  refine P_aload_n (n := 0) (q := 1) rfl rfl (by decide +kernel) ?_
  refine P_invV (As := []) (q := 4) oX10_isTold rfl kM64 kX10_208 e1 hMF (Nat.le_of_ble_eq_true rfl) hc rfl (by decide +kernel) (fun z I2 R2 hq => ?_)
  exact (h z I2 R2 hq)
theorem S_X10_canTurn_4 {X : CX} {d : Nat} {x1 o0 : Int} {I R : PF} {Q : PV → PF → PF → Prop} (c1 : -2147483648 ≤ o0 ∧ o0 < 2147483648) (h1 : o0 = 0 → PN X d mX10_canTurn 37 [] [] I R Q) (h2 : o0 ≠ 0 → PN X d mX10_canTurn 7 [(2, 64), (0, x1)] [] I R Q) : PN X d mX10_canTurn 4 [(2, 64), (0, x1)] [(0, o0)] I R Q := by
  refine B_if_eq (off := 33) (t := 37) (q := 7) c1 (by decide) rfl (by decide +kernel) ?_ ?_
  · exact fun g9 => (PW_sub (ls' := []) trivial (h1 g9))
  · exact fun g9 => (h2 g9)
theorem S_X10_canTurn_7 {X : CX} {d : Nat} {x1 : Int} {I R : PF} {Q : PV → PF → PF → Prop} (c1 : -2147483648 ≤ x1 ∧ x1 < 2147483648) (h1 : x1 < 1 → PN X d mX10_canTurn 37 [] [] I R Q) (h2 : 1 ≤ x1 → PN X d mX10_canTurn 12 [(2, 64), (0, x1)] [] I R Q) : PN X d mX10_canTurn 7 [(2, 64), (0, x1)] [] I R Q := by
  refine P_iload_n (n := 1) (q := 8) rfl rfl (by decide +kernel) ?_
  refine P_iconst (n := 1) (q := 9) rfl (by decide +kernel) ?_
  refine B_icmp_lt (off := 28) (t := 37) (q := 12) c1 ⟨by decide, by decide⟩ (by decide) rfl (by decide +kernel) ?_ ?_
  · exact fun g9 => (PW_sub (ls' := []) trivial (h1 g9))
  · exact fun g9 => (h2 g9)
theorem S_X10_canTurn_12 {X : CX} {d : Nat} {x1 : Int} {I R : PF} {Q : PV → PF → PF → Prop} (c1 : -2147483648 ≤ x1 ∧ x1 < 2147483648) (h1 : 100 < x1 → PN X d mX10_canTurn 37 [] [] I R Q) (h2 : x1 ≤ 100 → PN X d mX10_canTurn 18 [(2, 64), (0, x1)] [] I R Q) : PN X d mX10_canTurn 12 [(2, 64), (0, x1)] [] I R Q := by
  refine P_iload_n (n := 1) (q := 13) rfl rfl (by decide +kernel) ?_
  refine P_bipush (n := 100) (q := 15) rfl rfl (by decide +kernel) ?_
  refine B_icmp_gt (off := 22) (t := 37) (q := 18) c1 ⟨by decide, by decide⟩ (by decide) rfl (by decide +kernel) ?_ ?_
  · exact fun g9 => (PW_sub (ls' := []) trivial (h1 g9))
  · exact fun g9 => (h2 g9)
theorem S_X10_canTurn_18 {X : CX} {d : Nat} {x1 : Int} {I R : PF} {Q : PV → PF → PF → Prop} (hs : Shp R) (c1 : -2147483648 ≤ ((I 111 0) + x1) ∧ ((I 111 0) + x1) < 2147483648) (h1 : 999 < ((I 111 0) + x1) → PN X d mX10_canTurn 37 [] [] I R Q) (h2 : ((I 111 0) + x1) ≤ 999 → PN X d mX10_canTurn 33 [] [] I R Q) : PN X d mX10_canTurn 18 [(2, 64), (0, x1)] [] I R Q := by
  refine P_aload_n (n := 0) (q := 19) rfl rfl (by decide +kernel) ?_
  refine B_getfR (q := 22) fX10_73 kM64 (rM64_11 hs) rfl (by decide +kernel) ?_
  refine P_getf (q := 25) fX10_157 kM111 rfl (by decide +kernel) ?_
  refine P_iload_n (n := 1) (q := 26) rfl rfl (by decide +kernel) ?_
  refine P_iadd (q := 27) rfl (by decide +kernel) ?_
  refine P_sipush (n := 999) (q := 30) rfl rfl (by decide +kernel) ?_
  refine B_icmp_gt (off := 7) (t := 37) (q := 33) c1 ⟨by decide, by decide⟩ (by decide) rfl (by decide +kernel) ?_ ?_
  · exact fun g9 => (PW_sub (ls' := []) trivial (h1 g9))
  · exact fun g9 => (PW_sub (ls' := []) trivial (h2 g9))
theorem S_X10_canTurn_33 {X : CX} {d : Nat} {I R : PF} {Q : PV → PF → PF → Prop} (h : PN X d mX10_canTurn 38 [] [(0, 1)] I R Q) : PN X d mX10_canTurn 33 [] [] I R Q := by
  refine P_iconst (n := 1) (q := 34) rfl (by decide +kernel) ?_
  refine P_goto (off := 4) (t := 38) (by decide) (by decide +kernel) ?_
  exact (PW_sub (ls' := []) trivial h)
theorem S_X10_canTurn_37 {X : CX} {d : Nat} {I R : PF} {Q : PV → PF → PF → Prop} (h : PN X d mX10_canTurn 38 [] [(0, 0)] I R Q) : PN X d mX10_canTurn 37 [] [] I R Q := by
  refine P_iconst (n := 0) (q := 38) rfl (by decide +kernel) ?_
  exact (PW_sub (ls' := []) trivial h)
theorem S_X10_canTurn_38 {X : CX} {d : Nat} {o0 : Int} {I R : PF} {Q : PV → PF → PF → Prop} (z1 : o0 = 0 ∨ o0 = 1) (h : Q (0, o0) I R) : PN X d mX10_canTurn 38 [] [(0, o0)] I R Q := by
  refine P_zret rfl z1 (by decide +kernel) h
theorem S_X10_chance_0 {X : CX} {d d1 : Nat} {x1 : Int} {I R : PF} {Q Q1 : PV → PF → PF → Prop} (e1 : d1 + 1 ≤ d) (hc : CN X d1 mX10_canTurn [(2, 64), (0, x1)] I R Q1) (h : ∀ z I2 R2, Q1 (0, z) I2 R2 → PN X d mX10_chance 5 [(2, 64), (0, x1)] [(0, z)] I2 R2 Q) : PN X d mX10_chance 0 [(2, 64), (0, x1)] [] I R Q := by
  refine P_aload_n (n := 0) (q := 1) rfl rfl (by decide +kernel) ?_
  refine P_iload_n (n := 1) (q := 2) rfl rfl (by decide +kernel) ?_
  refine P_invV (As := [(0, x1)]) (q := 5) oX10_canTurn rfl kM64 kX10_320 e1 hMF (Nat.le_of_ble_eq_true rfl) hc rfl (by decide +kernel) (fun z I2 R2 hq => ?_)
  exact (h z I2 R2 hq)
theorem S_X10_chance_5 {X : CX} {d : Nat} {x1 o0 : Int} {I R : PF} {Q : PV → PF → PF → Prop} (c1 : -2147483648 ≤ o0 ∧ o0 < 2147483648) (h1 : o0 ≠ 0 → PN X d mX10_chance 20 [(2, 64), (0, x1)] [] I R Q) (h2 : o0 = 0 → PN X d mX10_chance 8 [(2, 64)] [] I R Q) : PN X d mX10_chance 5 [(2, 64), (0, x1)] [(0, o0)] I R Q := by
  refine B_if_ne (off := 15) (t := 20) (q := 8) c1 (by decide) rfl (by decide +kernel) ?_ ?_
  · exact fun g9 => (h1 g9)
  · exact fun g9 => (PW_sub (ls' := [(2, 64)]) ⟨Or.inr rfl, trivial⟩ (h2 g9))
theorem S_X10_chance_8 {X : CX} {d : Nat} {I R : PF} {Q : PV → PF → PF → Prop} (hs : Shp R) (h : Q (0, (-1)) (u2 I 66 3 ((I 66 3) + 1)) R) : PN X d mX10_chance 8 [(2, 64)] [] I R Q := by
  refine P_aload_n (n := 0) (q := 9) rfl rfl (by decide +kernel) ?_
  refine B_getfR (q := 12) fX10_17 kM64 (rM64_2 hs) rfl (by decide +kernel) ?_
  refine P_iconst (n := 3) (q := 13) rfl (by decide +kernel) ?_
  refine P_dup2 (q := 14) (Nat.ne_of_beq_eq_false rfl) (Nat.ne_of_beq_eq_false rfl) rfl (by decide +kernel) ?_
  refine B_iaload (q := 15) kM66 nM66 (by decide) ⟨by decide, by decide⟩ rfl (by decide +kernel) ?_
  refine P_iconst (n := 1) (q := 16) rfl (by decide +kernel) ?_
  refine P_iadd (q := 17) rfl (by decide +kernel) ?_
  refine B_iastore (q := 18) kM66 nM66 (by decide) ⟨by decide, by decide⟩ rfl (by decide +kernel) ?_
  refine P_iconst (n := (-1)) (q := 19) rfl (by decide +kernel) ?_
  refine P_iret rfl (by decide +kernel) h
theorem S_X10_chance_20 {X : CX} {d d1 : Nat} {x1 : Int} {I R : PF} {Q Q1 : PV → PF → PF → Prop} (hs : Shp R) (e1 : d1 + 1 ≤ d) (hc : CN X d1 mX10_turn [(2, 64), (0, x1), (2, 303)] (u2 I 303 1 0) R Q1) (h : ∀ z I2 R2, Q1 (0, z) I2 R2 → PN X d mX10_chance 37 [(2, 64)] [(0, z)] I2 R2 Q) : PN X d mX10_chance 20 [(2, 64), (0, x1)] [] I R Q := by
  refine P_aload_n (n := 0) (q := 21) rfl rfl (by decide +kernel) ?_
  refine B_getfR (q := 24) fX10_99 kM64 (rM64_15 hs) rfl (by decide +kernel) ?_
  refine P_iconst (n := 0) (q := 25) rfl (by decide +kernel) ?_
  refine P_putI (q := 28) wX10_327 (fun h => by cases h) kM303 rfl (by decide +kernel) ?_
  refine P_aload_n (n := 0) (q := 29) rfl rfl (by decide +kernel) ?_
  refine P_iload_n (n := 1) (q := 30) rfl rfl (by decide +kernel) ?_
  refine P_aload_n (n := 0) (q := 31) rfl rfl (by decide +kernel) ?_
  refine B_getfR (q := 34) fX10_99 kM64 (rM64_15 hs) rfl (by decide +kernel) ?_
  refine P_invV (As := [(0, x1), (2, 303)]) (q := 37) oX10_turn rfl kM64 kX10_323 e1 hMF (Nat.le_of_ble_eq_true rfl) hc rfl (by decide +kernel) (fun z I2 R2 hq => ?_)
  exact (PW_sub (ls' := [(2, 64)]) ⟨Or.inr rfl, trivial⟩ (h z I2 R2 hq))
theorem S_X10_chance_37 {X : CX} {d : Nat} {o0 : Int} {I R : PF} {Q : PV → PF → PF → Prop} (hs : Shp R) (h : Q (0, (I 303 1)) I R) : PN X d mX10_chance 37 [(2, 64)] [(0, o0)] I R Q := by
  refine P_pop (q := 38) (Nat.ne_of_beq_eq_false rfl) rfl (by decide +kernel) ?_
  refine P_aload_n (n := 0) (q := 39) rfl rfl (by decide +kernel) ?_
  refine B_getfR (q := 42) fX10_99 kM64 (rM64_15 hs) rfl (by decide +kernel) ?_
  refine P_getf (q := 45) fX10_327 kM303 rfl (by decide +kernel) ?_
  refine P_iret rfl (by decide +kernel) h
