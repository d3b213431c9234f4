/-! ===== the class made ===== -/
theorem wX10_9 : FW RX10 9 9 0 (.array .int) true := ⟨_, _, _, cOK9, by decide, rfl, rfl, Or.inl ⟨tGp2 107 rfl rfl, fun _ => rfl⟩⟩
theorem wX10_17 : FW RX10 17 9 2 (.array .int) true := ⟨_, _, _, cOK9, by decide, rfl, rfl, Or.inl ⟨tGp2 109 rfl rfl, fun _ => rfl⟩⟩
theorem wX10_31 : FW RX10 31 9 5 (.object "NoonHat$Scan") true := ⟨_, _, _, cOK9, by decide, rfl, rfl, Or.inl ⟨tGp2 112 rfl rfl, fun _ => rfl⟩⟩
theorem wX10_38 : FW RX10 38 9 6 (.object "NoonHat$Formula") true := ⟨_, _, _, cOK9, by decide, rfl, rfl, Or.inl ⟨tGp2 113 rfl rfl, fun _ => rfl⟩⟩
theorem wX10_47 : FW RX10 47 9 7 (.object "NoonHat$FormulaReader") true := ⟨_, _, _, cOK9, by decide, rfl, rfl, Or.inl ⟨tGp2 114 rfl rfl, fun _ => rfl⟩⟩
theorem wX10_66 : FW RX10 66 9 10 (.object "NoonHat$SquareReader") true := ⟨_, _, _, cOK9, by decide, rfl, rfl, Or.inl ⟨tGp2 117 rfl rfl, fun _ => rfl⟩⟩
theorem wX10_73 : FW RX10 73 9 11 (.object "NoonHat$State") true := ⟨_, _, _, cOK9, by decide, rfl, rfl, Or.inl ⟨tGp2 118 rfl rfl, fun _ => rfl⟩⟩
theorem wX10_77 : FW RX10 77 9 12 (.object "NoonHat$State") true := ⟨_, _, _, cOK9, by decide, rfl, rfl, Or.inl ⟨tGp2 119 rfl rfl, fun _ => rfl⟩⟩
theorem wX10_85 : FW RX10 85 9 13 (.object "NoonHat$Flight") true := ⟨_, _, _, cOK9, by decide, rfl, rfl, Or.inl ⟨tGp2 120 rfl rfl, fun _ => rfl⟩⟩
theorem wX10_92 : FW RX10 92 9 14 (.object "NoonHat$Past") true := ⟨_, _, _, cOK9, by decide, rfl, rfl, Or.inl ⟨tGp2 121 rfl rfl, fun _ => rfl⟩⟩
theorem wX10_99 : FW RX10 99 9 15 (.object "NoonHat$Dice") true := ⟨_, _, _, cOK9, by decide, rfl, rfl, Or.inl ⟨tGp2 122 rfl rfl, fun _ => rfl⟩⟩
theorem wX10_103 : FW RX10 103 9 16 (.array .int) true := ⟨_, _, _, cOK9, by decide, rfl, rfl, Or.inl ⟨tGp2 123 rfl rfl, fun _ => rfl⟩⟩
theorem wX10_109 : FW RX10 109 9 18 (.array .int) true := ⟨_, _, _, cOK9, by decide, rfl, rfl, Or.inl ⟨tGp2 125 rfl rfl, fun _ => rfl⟩⟩
theorem G_Xa_0 {X : CX} {d : Nat} {WI WR : List (Int × Int × Int)} {Q : PV → PF → PF → Prop} (hd : 3 ≤ d) (hI : Lt WI 65) (hR : Lt WR 65) (k : Lt WI 66 → Lt ((64, 0, 65) :: WR) 66 → PW X d (MF.take 242) mX10_init (MF.take 1) 13 [(2, 64)] [] (wr WI) (wr ((64, 0, 65) :: WR)) (MF.take 2) Q) : PW X d (MF.take 242) mX10_init (MF.take 1) 0 [(2, 64)] [] (wr WI) (wr WR) (MF.take 1) Q := by
  refine P_aload_n (n := 0) (q := 1) rfl rfl (by decide +kernel) ?_
  refine P_objInit (ci := 9) (q := 4) (by decide +kernel) (by decide) (tGp1 23 rfl rfl) (tGp1 24 rfl rfl) (tGp1 25 rfl rfl) (by omega) (by decide) rfl (by decide +kernel) ?_
  refine P_aload_n (n := 0) (q := 5) rfl rfl (by decide +kernel) ?_
  refine P_sipush (n := 1600) (q := 8) rfl rfl (by decide +kernel) ?_
  refine T_newi (N := 1600) (c := 65) (n := 1) (q := 10) rfl (by decide) (by decide +kernel) (by decide) (by decide) (hI.up (by decide)) (hR.up (by decide)) rfl (by decide +kernel) ?_
  refine T_putR wX10_9 rfl (fun _ => rfl) (by decide +kernel) (q := 13) rfl (by decide +kernel) ?_
  exact k (hI.up (by decide)) (Lt.one (hR.up (by decide)) (by decide))
theorem G_Xa_13 {X : CX} {d : Nat} {WI WR : List (Int × Int × Int)} {Q : PV → PF → PF → Prop} (hd : 3 ≤ d) (hI : Lt WI 66) (hR : Lt WR 66) (k : Lt ((64, 1, 0) :: WI) 66 → Lt WR 66 → PW X d (MF.take 242) mX10_init (MF.take 1) 18 [(2, 64)] [] (wr ((64, 1, 0) :: WI)) (wr WR) (MF.take 2) Q) : PW X d (MF.take 242) mX10_init (MF.take 1) 13 [(2, 64)] [] (wr WI) (wr WR) (MF.take 2) Q := by
  refine P_aload_n (n := 0) (q := 14) rfl rfl (by decide +kernel) ?_
  refine P_iconst (n := 0) (q := 15) rfl (by decide +kernel) ?_
  refine T_putI wX10_13 (fun h => by cases h) (by decide +kernel) (q := 18) rfl (by decide +kernel) ?_
  exact k (Lt.one (hI.up (by decide)) (by decide)) (hR.up (by decide))
theorem G_Xa_18 {X : CX} {d : Nat} {WI WR : List (Int × Int × Int)} {Q : PV → PF → PF → Prop} (hd : 3 ≤ d) (hI : Lt WI 66) (hR : Lt WR 66) (k : Lt WI 67 → Lt ((64, 2, 66) :: WR) 67 → PW X d (MF.take 242) mX10_init (MF.take 1) 26 [(2, 64)] [] (wr WI) (wr ((64, 2, 66) :: WR)) (MF.take 3) Q) : PW X d (MF.take 242) mX10_init (MF.take 1) 18 [(2, 64)] [] (wr WI) (wr WR) (MF.take 2) Q := by
  refine P_aload_n (n := 0) (q := 19) rfl rfl (by decide +kernel) ?_
  refine P_bipush (n := 6) (q := 21) rfl rfl (by decide +kernel) ?_
  refine T_newi (N := 6) (c := 66) (n := 2) (q := 23) rfl (by decide) (by decide +kernel) (by decide) (by decide) (hI.up (by decide)) (hR.up (by decide)) rfl (by decide +kernel) ?_
  refine T_putR wX10_17 rfl (fun _ => rfl) (by decide +kernel) (q := 26) rfl (by decide +kernel) ?_
  exact k (hI.up (by decide)) (Lt.one (hR.up (by decide)) (by decide))
theorem G_Xa_26 {X : CX} {d : Nat} {WI WR : List (Int × Int × Int)} {Q : PV → PF → PF → Prop} (hd : 3 ≤ d) (hI : Lt WI 67) (hR : Lt WR 67) (k : Lt ((64, 3, 0) :: WI) 67 → Lt WR 67 → PW X d (MF.take 242) mX10_init (MF.take 1) 31 [(2, 64)] [] (wr ((64, 3, 0) :: WI)) (wr WR) (MF.take 3) Q) : PW X d (MF.take 242) mX10_init (MF.take 1) 26 [(2, 64)] [] (wr WI) (wr WR) (MF.take 3) Q := by
  refine P_aload_n (n := 0) (q := 27) rfl rfl (by decide +kernel) ?_
  refine P_iconst (n := 0) (q := 28) rfl (by decide +kernel) ?_
  refine T_putI wX10_20 (fun h => by cases h) (by decide +kernel) (q := 31) rfl (by decide +kernel) ?_
  exact k (Lt.one (hI.up (by decide)) (by decide)) (hR.up (by decide))
theorem G_Xa_31 {X : CX} {d : Nat} {WI WR : List (Int × Int × Int)} {Q : PV → PF → PF → Prop} (hd : 3 ≤ d) (hI : Lt WI 67) (hR : Lt WR 67) (k : Lt ((64, 4, (-1)) :: WI) 67 → Lt WR 67 → PW X d (MF.take 242) mX10_init (MF.take 1) 36 [(2, 64)] [] (wr ((64, 4, (-1)) :: WI)) (wr WR) (MF.take 3) Q) : PW X d (MF.take 242) mX10_init (MF.take 1) 31 [(2, 64)] [] (wr WI) (wr WR) (MF.take 3) Q := by
  refine P_aload_n (n := 0) (q := 32) rfl rfl (by decide +kernel) ?_
  refine P_iconst (n := -1) (q := 33) rfl (by decide +kernel) ?_
  refine T_putI wX10_23 (fun h => by cases h) (by decide +kernel) (q := 36) rfl (by decide +kernel) ?_
  exact k (Lt.one (hI.up (by decide)) (by decide)) (hR.up (by decide))
theorem n_Scan_67 {X : CX} {WI WR : List (Int × Int × Int)} (hI : Lt WI 68) (hR : Lt WR 68) : Callee X 1 mX5_init (MF.take 4) (MF.take 4) [(2, 67), (2, 65)] (wr WI) (wr WR) (fun _ I' R' => I' = wr ((67, 9, (-1)) :: ((67, 8, 0) :: ((67, 7, 0) :: ((67, 5, 0) :: ((67, 4, 0) :: ((67, 3, 0) :: ((67, 2, 0) :: ((67, 1, 0) :: WI)))))))) ∧ R' = wr ((67, 0, 65) :: ((67, 6, 1) :: WR))) := by
  exact i_Scan (by decide +kernel)
theorem G_Xa_36 {X : CX} {d : Nat} {WI WR : List (Int × Int × Int)} {Q : PV → PF → PF → Prop} (hd : 3 ≤ d) (hI : Lt WI 67) (hR : Lt WR 67) (h1 : wr WR 64 0 = 65) (k : Lt ((67, 9, (-1)) :: ((67, 8, 0) :: ((67, 7, 0) :: ((67, 5, 0) :: ((67, 4, 0) :: ((67, 3, 0) :: ((67, 2, 0) :: ((67, 1, 0) :: WI)))))))) 68 → Lt ((64, 5, 67) :: ((67, 0, 65) :: ((67, 6, 1) :: WR))) 68 → PW X d (MF.take 242) mX10_init (MF.take 1) 51 [(2, 64)] [] (wr ((67, 9, (-1)) :: ((67, 8, 0) :: ((67, 7, 0) :: ((67, 5, 0) :: ((67, 4, 0) :: ((67, 3, 0) :: ((67, 2, 0) :: ((67, 1, 0) :: WI))))))))) (wr ((64, 5, 67) :: ((67, 0, 65) :: ((67, 6, 1) :: WR)))) (MF.take 4) Q) : PW X d (MF.take 242) mX10_init (MF.take 1) 36 [(2, 64)] [] (wr WI) (wr WR) (MF.take 3) Q := by
  refine P_aload_n (n := 0) (q := 37) rfl rfl (by decide +kernel) ?_
  refine T_new (ci := 5) (N := 10) (c := 67) (n := 3) (q := 40) cOK5 (by decide +kernel) (tGp1 26 rfl rfl) (tGp1 27 rfl rfl) (tGp1 2 rfl rfl) (by decide +kernel) (by decide) (by decide) (hI.up (by decide)) (hR.up (by decide)) rfl (by decide +kernel) ?_
  refine P_dup (Nat.ne_of_beq_eq_false rfl) (q := 41) rfl (by decide +kernel) ?_
  refine P_aload_n (n := 0) (q := 42) rfl rfl (by decide +kernel) ?_
  refine B_getfR fX10_9 (by decide +kernel) h1 (q := 45) rfl (by decide +kernel) ?_
  refine T_ctor (ci := 5) (n' := 4) (d' := 1) (As := [(2, 65)]) (q := 48) oX5_init rfl (by decide +kernel) (by decide) (Or.inl kX10_28) (by omega) (by decide) (by decide) (by decide) (n_Scan_67 (hI.up (by decide)) (hR.up (by decide))) rfl (by decide +kernel) ?_
  refine T_putR wX10_31 rfl (fun _ => rfl) (by decide +kernel) (q := 51) rfl (by decide +kernel) ?_
  exact k (Lt.one (Lt.one (Lt.one (Lt.one (Lt.one (Lt.one (Lt.one (Lt.one (hI.up (by decide)) (by decide)) (by decide)) (by decide)) (by decide)) (by decide)) (by decide)) (by decide)) (by decide)) (Lt.one (Lt.one (Lt.one (hR.up (by decide)) (by decide)) (by decide)) (by decide))
theorem n_Formula_68 {X : CX} {WI WR : List (Int × Int × Int)} (hI : Lt WI 69) (hR : Lt WR 69) : Callee X 1 mX2_init (MF.take 5) (MF.take 7) [(2, 68)] (wr WI) (wr WR) (fun _ I' R' => I' = wr ((68, 2, 0) :: WI) ∧ R' = wr ((68, 1, 70) :: ((68, 0, 69) :: WR))) := by
  have e : ((MF.take 5).length : Int) = 5 := by decide +kernel
  have h := i_Formula (X := X) (M := MF.take 5) (WI := WI) (WR := WR) (o := 68) (by decide +kernel) (by rw [e]; exact hI.out) (by rw [e]; exact hR.out) (by rw [e]; decide)
  rw [e, show MF.take 5 ++ [(12, 1600)] ++ [(12, 64)] = MF.take 7 by decide +kernel] at h
  exact h
theorem G_Xa_51 {X : CX} {d : Nat} {WI WR : List (Int × Int × Int)} {Q : PV → PF → PF → Prop} (hd : 3 ≤ d) (hI : Lt WI 68) (hR : Lt WR 68) (k : Lt ((68, 2, 0) :: WI) 71 → Lt ((64, 6, 68) :: ((68, 1, 70) :: ((68, 0, 69) :: WR))) 71 → PW X d (MF.take 242) mX10_init (MF.take 1) 62 [(2, 64)] [] (wr ((68, 2, 0) :: WI)) (wr ((64, 6, 68) :: ((68, 1, 70) :: ((68, 0, 69) :: WR)))) (MF.take 7) Q) : PW X d (MF.take 242) mX10_init (MF.take 1) 51 [(2, 64)] [] (wr WI) (wr WR) (MF.take 4) Q := by
  refine P_aload_n (n := 0) (q := 52) rfl rfl (by decide +kernel) ?_
  refine T_new (ci := 2) (N := 3) (c := 68) (n := 4) (q := 55) cOK2 (by decide +kernel) (tGp1 72 rfl rfl) (tGp1 73 rfl rfl) (tGp1 5 rfl rfl) (by decide +kernel) (by decide) (by decide) (hI.up (by decide)) (hR.up (by decide)) rfl (by decide +kernel) ?_
  refine P_dup (Nat.ne_of_beq_eq_false rfl) (q := 56) rfl (by decide +kernel) ?_
  refine T_ctor (ci := 2) (n' := 7) (d' := 1) (As := []) (q := 59) oX2_init rfl (by decide +kernel) (by decide) (Or.inr kX10_37) (by omega) (by decide) (by decide) (by decide) (n_Formula_68 (hI.up (by decide)) (hR.up (by decide))) rfl (by decide +kernel) ?_
  refine T_putR wX10_38 rfl (fun _ => rfl) (by decide +kernel) (q := 62) rfl (by decide +kernel) ?_
  exact k (Lt.one (hI.up (by decide)) (by decide)) (Lt.one (Lt.one (Lt.one (hR.up (by decide)) (by decide)) (by decide)) (by decide))
theorem n_FormulaReader_71 {X : CX} {WI WR : List (Int × Int × Int)} (hI : Lt WI 72) (hR : Lt WR 72) : Callee X 1 mX3_init (MF.take 8) (MF.take 8) [(2, 71), (2, 67), (2, 68)] (wr WI) (wr WR) (fun _ I' R' => I' = wr ((71, 3, 0) :: ((71, 2, 0) :: WI)) ∧ R' = wr ((71, 1, 68) :: ((71, 0, 67) :: WR))) := by
  exact i_FormulaReader (by decide +kernel)
theorem G_Xa_62 {X : CX} {d : Nat} {WI WR : List (Int × Int × Int)} {Q : PV → PF → PF → Prop} (hd : 3 ≤ d) (hI : Lt WI 71) (hR : Lt WR 71) (h1 : wr WR 64 5 = 67) (h2 : wr WR 64 6 = 68) (k : Lt ((71, 3, 0) :: ((71, 2, 0) :: WI)) 72 → Lt ((64, 7, 71) :: ((71, 1, 68) :: ((71, 0, 67) :: WR))) 72 → PW X d (MF.take 242) mX10_init (MF.take 1) 81 [(2, 64)] [] (wr ((71, 3, 0) :: ((71, 2, 0) :: WI))) (wr ((64, 7, 71) :: ((71, 1, 68) :: ((71, 0, 67) :: WR)))) (MF.take 8) Q) : PW X d (MF.take 242) mX10_init (MF.take 1) 62 [(2, 64)] [] (wr WI) (wr WR) (MF.take 7) Q := by
  refine P_aload_n (n := 0) (q := 63) rfl rfl (by decide +kernel) ?_
  refine T_new (ci := 3) (N := 4) (c := 71) (n := 7) (q := 66) cOK3 (by decide +kernel) (tGp1 88 rfl rfl) (tGp1 89 rfl rfl) (tGp1 6 rfl rfl) (by decide +kernel) (by decide) (by decide) (hI.up (by decide)) (hR.up (by decide)) rfl (by decide +kernel) ?_
  refine P_dup (Nat.ne_of_beq_eq_false rfl) (q := 67) rfl (by decide +kernel) ?_
  refine P_aload_n (n := 0) (q := 68) rfl rfl (by decide +kernel) ?_
  refine B_getfR fX10_31 (by decide +kernel) h1 (q := 71) rfl (by decide +kernel) ?_
  refine P_aload_n (n := 0) (q := 72) rfl rfl (by decide +kernel) ?_
  refine B_getfR fX10_38 (by decide +kernel) h2 (q := 75) rfl (by decide +kernel) ?_
  refine T_ctor (ci := 3) (n' := 8) (d' := 1) (As := [(2, 67), (2, 68)]) (q := 78) oX3_init rfl (by decide +kernel) (by decide) (Or.inl kX10_44) (by omega) (by decide) (by decide) (by decide) (n_FormulaReader_71 (hI.up (by decide)) (hR.up (by decide))) rfl (by decide +kernel) ?_
  refine T_putR wX10_47 rfl (fun _ => rfl) (by decide +kernel) (q := 81) rfl (by decide +kernel) ?_
  exact k (Lt.one (Lt.one (hI.up (by decide)) (by decide)) (by decide)) (Lt.one (Lt.one (Lt.one (hR.up (by decide)) (by decide)) (by decide)) (by decide))
theorem G_Xa_81 {X : CX} {d : Nat} {WI WR : List (Int × Int × Int)} {Q : PV → PF → PF → Prop} (hd : 3 ≤ d) (hI : Lt WI 72) (hR : Lt WR 72) (k : Lt ((83, 3, 0) :: ((83, 2, 0) :: ((83, 1, (-1)) :: ((83, 0, 0) :: ((80, 2, 0) :: ((77, 2, 0) :: ((72, 7, 0) :: ((72, 6, 0) :: ((72, 5, 0) :: ((72, 4, 0) :: ((72, 3, 0) :: ((72, 2, 0) :: ((72, 1, 0) :: ((72, 0, 0) :: WI)))))))))))))) 91 → Lt ((64, 8, 72) :: ((72, 14, 83) :: ((83, 4, 84) :: (rws 84 6 ++ ((72, 13, 80) :: ((80, 1, 82) :: ((80, 0, 81) :: ((72, 12, 77) :: ((77, 1, 79) :: ((77, 0, 78) :: ((72, 11, 76) :: ((72, 10, 75) :: ((72, 9, 74) :: ((72, 8, 73) :: WR)))))))))))))) 91 → PW X d (MF.take 242) mX10_init (MF.take 1) 92 [(2, 64)] [] (wr ((83, 3, 0) :: ((83, 2, 0) :: ((83, 1, (-1)) :: ((83, 0, 0) :: ((80, 2, 0) :: ((77, 2, 0) :: ((72, 7, 0) :: ((72, 6, 0) :: ((72, 5, 0) :: ((72, 4, 0) :: ((72, 3, 0) :: ((72, 2, 0) :: ((72, 1, 0) :: ((72, 0, 0) :: WI))))))))))))))) (wr ((64, 8, 72) :: ((72, 14, 83) :: ((83, 4, 84) :: (rws 84 6 ++ ((72, 13, 80) :: ((80, 1, 82) :: ((80, 0, 81) :: ((72, 12, 77) :: ((77, 1, 79) :: ((77, 0, 78) :: ((72, 11, 76) :: ((72, 10, 75) :: ((72, 9, 74) :: ((72, 8, 73) :: WR))))))))))))))) (MF.take 27) Q) : PW X d (MF.take 242) mX10_init (MF.take 1) 81 [(2, 64)] [] (wr WI) (wr WR) (MF.take 8) Q := by
  refine P_aload_n (n := 0) (q := 82) rfl rfl (by decide +kernel) ?_
  refine T_new (ci := 6) (N := 15) (c := 72) (n := 8) (q := 85) cOK6 (by decide +kernel) (tGp1 107 rfl rfl) (tGp1 108 rfl rfl) (tGp1 7 rfl rfl) (by decide +kernel) (by decide) (by decide) (hI.up (by decide)) (hR.up (by decide)) rfl (by decide +kernel) ?_
  refine P_dup (Nat.ne_of_beq_eq_false rfl) (q := 86) rfl (by decide +kernel) ?_
  refine T_ctor (ci := 6) (n' := 27) (d' := 2) (As := []) (q := 89) oX6_init rfl (by decide +kernel) (by decide) (Or.inr kX10_53) (by omega) (by decide) (by decide) (by decide) (n_Square_72 (hI.up (by decide)) (hR.up (by decide))) rfl (by decide +kernel) ?_
  refine T_putR wX10_54 rfl (fun h => by cases h) (by decide +kernel) (q := 92) rfl (by decide +kernel) ?_
  exact k (Lt.one (Lt.one (Lt.one (Lt.one (Lt.one (Lt.one (Lt.one (Lt.one (Lt.one (Lt.one (Lt.one (Lt.one (Lt.one (Lt.one (hI.up (by decide)) (by decide)) (by decide)) (by decide)) (by decide)) (by decide)) (by decide)) (by decide)) (by decide)) (by decide)) (by decide)) (by decide)) (by decide)) (by decide)) (by decide)) (Lt.one (Lt.one (Lt.one (Lt_rws (Lt.one (Lt.one (Lt.one (Lt.one (Lt.one (Lt.one (Lt.one (Lt.one (Lt.one (Lt.one (hR.up (by decide)) (by decide)) (by decide)) (by decide)) (by decide)) (by decide)) (by decide)) (by decide)) (by decide)) (by decide)) (by decide)) (by decide)) (by decide)) (by decide)) (by decide))
theorem G_Xa_92 {X : CX} {d : Nat} {WI WR : List (Int × Int × Int)} {Q : PV → PF → PF → Prop} (hd : 3 ≤ d) (hI : Lt WI 91) (hR : Lt WR 91) (k : Lt ((102, 3, 0) :: ((102, 2, 0) :: ((102, 1, (-1)) :: ((102, 0, 0) :: ((99, 2, 0) :: ((96, 2, 0) :: ((91, 7, 0) :: ((91, 6, 0) :: ((91, 5, 0) :: ((91, 4, 0) :: ((91, 3, 0) :: ((91, 2, 0) :: ((91, 1, 0) :: ((91, 0, 0) :: WI)))))))))))))) 110 → Lt ((64, 9, 91) :: ((91, 14, 102) :: ((102, 4, 103) :: (rws 103 6 ++ ((91, 13, 99) :: ((99, 1, 101) :: ((99, 0, 100) :: ((91, 12, 96) :: ((96, 1, 98) :: ((96, 0, 97) :: ((91, 11, 95) :: ((91, 10, 94) :: ((91, 9, 93) :: ((91, 8, 92) :: WR)))))))))))))) 110 → PW X d (MF.take 242) mX10_init (MF.take 1) 103 [(2, 64)] [] (wr ((102, 3, 0) :: ((102, 2, 0) :: ((102, 1, (-1)) :: ((102, 0, 0) :: ((99, 2, 0) :: ((96, 2, 0) :: ((91, 7, 0) :: ((91, 6, 0) :: ((91, 5, 0) :: ((91, 4, 0) :: ((91, 3, 0) :: ((91, 2, 0) :: ((91, 1, 0) :: ((91, 0, 0) :: WI))))))))))))))) (wr ((64, 9, 91) :: ((91, 14, 102) :: ((102, 4, 103) :: (rws 103 6 ++ ((91, 13, 99) :: ((99, 1, 101) :: ((99, 0, 100) :: ((91, 12, 96) :: ((96, 1, 98) :: ((96, 0, 97) :: ((91, 11, 95) :: ((91, 10, 94) :: ((91, 9, 93) :: ((91, 8, 92) :: WR))))))))))))))) (MF.take 46) Q) : PW X d (MF.take 242) mX10_init (MF.take 1) 92 [(2, 64)] [] (wr WI) (wr WR) (MF.take 27) Q := by
  refine P_aload_n (n := 0) (q := 93) rfl rfl (by decide +kernel) ?_
  refine T_new (ci := 6) (N := 15) (c := 91) (n := 27) (q := 96) cOK6 (by decide +kernel) (tGp1 107 rfl rfl) (tGp1 108 rfl rfl) (tGp1 7 rfl rfl) (by decide +kernel) (by decide) (by decide) (hI.up (by decide)) (hR.up (by decide)) rfl (by decide +kernel) ?_
  refine P_dup (Nat.ne_of_beq_eq_false rfl) (q := 97) rfl (by decide +kernel) ?_
  refine T_ctor (ci := 6) (n' := 46) (d' := 2) (As := []) (q := 100) oX6_init rfl (by decide +kernel) (by decide) (Or.inr kX10_53) (by omega) (by decide) (by decide) (by decide) (n_Square_91 (hI.up (by decide)) (hR.up (by decide))) rfl (by decide +kernel) ?_
  refine T_putR wX10_58 rfl (fun h => by cases h) (by decide +kernel) (q := 103) rfl (by decide +kernel) ?_
  exact k (Lt.one (Lt.one (Lt.one (Lt.one (Lt.one (Lt.one (Lt.one (Lt.one (Lt.one (Lt.one (Lt.one (Lt.one (Lt.one (Lt.one (hI.up (by decide)) (by decide)) (by decide)) (by decide)) (by decide)) (by decide)) (by decide)) (by decide)) (by decide)) (by decide)) (by decide)) (by decide)) (by decide)) (by decide)) (by decide)) (Lt.one (Lt.one (Lt.one (Lt_rws (Lt.one (Lt.one (Lt.one (Lt.one (Lt.one (Lt.one (Lt.one (Lt.one (Lt.one (Lt.one (hR.up (by decide)) (by decide)) (by decide)) (by decide)) (by decide)) (by decide)) (by decide)) (by decide)) (by decide)) (by decide)) (by decide)) (by decide)) (by decide)) (by decide)) (by decide))
theorem n_SquareReader_110 {X : CX} {WI WR : List (Int × Int × Int)} (hI : Lt WI 111) (hR : Lt WR 111) : Callee X 1 mX7_init (MF.take 47) (MF.take 47) [(2, 110), (2, 67), (2, 71), (2, 91)] (wr WI) (wr WR) (fun _ I' R' => I' = wr WI ∧ R' = wr ((110, 2, 91) :: ((110, 1, 71) :: ((110, 0, 67) :: WR)))) := by
  exact i_SquareReader (by decide +kernel)
theorem G_Xa_103 {X : CX} {d : Nat} {WI WR : List (Int × Int × Int)} {Q : PV → PF → PF → Prop} (hd : 3 ≤ d) (hI : Lt WI 110) (hR : Lt WR 110) (h1 : wr WR 64 5 = 67) (h2 : wr WR 64 7 = 71) (h3 : wr WR 64 9 = 91) (k : Lt WI 111 → Lt ((64, 10, 110) :: ((110, 2, 91) :: ((110, 1, 71) :: ((110, 0, 67) :: WR)))) 111 → PW X d (MF.take 242) mX10_init (MF.take 1) 126 [(2, 64)] [] (wr WI) (wr ((64, 10, 110) :: ((110, 2, 91) :: ((110, 1, 71) :: ((110, 0, 67) :: WR))))) (MF.take 47) Q) : PW X d (MF.take 242) mX10_init (MF.take 1) 103 [(2, 64)] [] (wr WI) (wr WR) (MF.take 46) Q := by
  refine P_aload_n (n := 0) (q := 104) rfl rfl (by decide +kernel) ?_
  refine T_new (ci := 7) (N := 3) (c := 110) (n := 46) (q := 107) cOK7 (by decide +kernel) (tGp1 224 rfl rfl) (tGp1 225 rfl rfl) (tGp1 9 rfl rfl) (by decide +kernel) (by decide) (by decide) (hI.up (by decide)) (hR.up (by decide)) rfl (by decide +kernel) ?_
  refine P_dup (Nat.ne_of_beq_eq_false rfl) (q := 108) rfl (by decide +kernel) ?_
  refine P_aload_n (n := 0) (q := 109) rfl rfl (by decide +kernel) ?_
  refine B_getfR fX10_31 (by decide +kernel) h1 (q := 112) rfl (by decide +kernel) ?_
  refine P_aload_n (n := 0) (q := 113) rfl rfl (by decide +kernel) ?_
  refine B_getfR fX10_47 (by decide +kernel) h2 (q := 116) rfl (by decide +kernel) ?_
  refine P_aload_n (n := 0) (q := 117) rfl rfl (by decide +kernel) ?_
  refine B_getfR fX10_58 (by decide +kernel) h3 (q := 120) rfl (by decide +kernel) ?_
  refine T_ctor (ci := 7) (n' := 47) (d' := 1) (As := [(2, 67), (2, 71), (2, 91)]) (q := 123) oX7_init rfl (by decide +kernel) (by decide) (Or.inl kX10_63) (by omega) (by decide) (by decide) (by decide) (n_SquareReader_110 (hI.up (by decide)) (hR.up (by decide))) rfl (by decide +kernel) ?_
  refine T_putR wX10_66 rfl (fun _ => rfl) (by decide +kernel) (q := 126) rfl (by decide +kernel) ?_
  exact k (hI.up (by decide)) (Lt.one (Lt.one (Lt.one (Lt.one (hR.up (by decide)) (by decide)) (by decide)) (by decide)) (by decide))
theorem n_State_111 {X : CX} {WI WR : List (Int × Int × Int)} (hI : Lt WI 112) (hR : Lt WR 112) : Callee X 1 mX8_init (MF.take 48) (MF.take 55) [(2, 111)] (wr WI) (wr WR) (fun _ I' R' => I' = wr ((111, 3, 0) :: ((111, 2, 0) :: ((111, 1, (-1)) :: ((111, 0, 0) :: WI)))) ∧ R' = wr ((111, 4, 112) :: (rws 112 6 ++ WR))) := by
  have e : ((MF.take 48).length : Int) = 48 := by decide +kernel
  have h := i_State (X := X) (M := MF.take 48) (WI := WI) (WR := WR) (o := 111) (by decide +kernel) (by decide +kernel) (by rw [e]; exact hI.out) (by rw [e]; exact hR.out) (by rw [e]; decide)
  rw [e, show MF.take 48 ++ (15, 6) :: List.replicate 6 (12, 8) = MF.take 55 by decide +kernel] at h
  exact h
theorem G_Xa_126 {X : CX} {d : Nat} {WI WR : List (Int × Int × Int)} {Q : PV → PF → PF → Prop} (hd : 3 ≤ d) (hI : Lt WI 111) (hR : Lt WR 111) (k : Lt ((111, 3, 0) :: ((111, 2, 0) :: ((111, 1, (-1)) :: ((111, 0, 0) :: WI)))) 119 → Lt ((64, 11, 111) :: ((111, 4, 112) :: (rws 112 6 ++ WR))) 119 → PW X d (MF.take 242) mX10_init (MF.take 1) 137 [(2, 64)] [] (wr ((111, 3, 0) :: ((111, 2, 0) :: ((111, 1, (-1)) :: ((111, 0, 0) :: WI))))) (wr ((64, 11, 111) :: ((111, 4, 112) :: (rws 112 6 ++ WR)))) (MF.take 55) Q) : PW X d (MF.take 242) mX10_init (MF.take 1) 126 [(2, 64)] [] (wr WI) (wr WR) (MF.take 47) Q := by
  refine P_aload_n (n := 0) (q := 127) rfl rfl (by decide +kernel) ?_
  refine T_new (ci := 8) (N := 5) (c := 111) (n := 47) (q := 130) cOK8 (by decide +kernel) (tGp2 0 rfl rfl) (tGp1 116 rfl rfl) (tGp1 8 rfl rfl) (by decide +kernel) (by decide) (by decide) (hI.up (by decide)) (hR.up (by decide)) rfl (by decide +kernel) ?_
  refine P_dup (Nat.ne_of_beq_eq_false rfl) (q := 131) rfl (by decide +kernel) ?_
  refine T_ctor (ci := 8) (n' := 55) (d' := 1) (As := []) (q := 134) oX8_init rfl (by decide +kernel) (by decide) (Or.inr kX10_72) (by omega) (by decide) (by decide) (by decide) (n_State_111 (hI.up (by decide)) (hR.up (by decide))) rfl (by decide +kernel) ?_
  refine T_putR wX10_73 rfl (fun _ => rfl) (by decide +kernel) (q := 137) rfl (by decide +kernel) ?_
  exact k (Lt.one (Lt.one (Lt.one (Lt.one (hI.up (by decide)) (by decide)) (by decide)) (by decide)) (by decide)) (Lt.one (Lt.one (Lt_rws (hR.up (by decide)) (by decide)) (by decide)) (by decide))
theorem n_State_119 {X : CX} {WI WR : List (Int × Int × Int)} (hI : Lt WI 120) (hR : Lt WR 120) : Callee X 1 mX8_init (MF.take 56) (MF.take 63) [(2, 119)] (wr WI) (wr WR) (fun _ I' R' => I' = wr ((119, 3, 0) :: ((119, 2, 0) :: ((119, 1, (-1)) :: ((119, 0, 0) :: WI)))) ∧ R' = wr ((119, 4, 120) :: (rws 120 6 ++ WR))) := by
  have e : ((MF.take 56).length : Int) = 56 := by decide +kernel
  have h := i_State (X := X) (M := MF.take 56) (WI := WI) (WR := WR) (o := 119) (by decide +kernel) (by decide +kernel) (by rw [e]; exact hI.out) (by rw [e]; exact hR.out) (by rw [e]; decide)
  rw [e, show MF.take 56 ++ (15, 6) :: List.replicate 6 (12, 8) = MF.take 63 by decide +kernel] at h
  exact h
theorem G_Xa_137 {X : CX} {d : Nat} {WI WR : List (Int × Int × Int)} {Q : PV → PF → PF → Prop} (hd : 3 ≤ d) (hI : Lt WI 119) (hR : Lt WR 119) (k : Lt ((119, 3, 0) :: ((119, 2, 0) :: ((119, 1, (-1)) :: ((119, 0, 0) :: WI)))) 127 → Lt ((64, 12, 119) :: ((119, 4, 120) :: (rws 120 6 ++ WR))) 127 → PW X d (MF.take 242) mX10_init (MF.take 1) 148 [(2, 64)] [] (wr ((119, 3, 0) :: ((119, 2, 0) :: ((119, 1, (-1)) :: ((119, 0, 0) :: WI))))) (wr ((64, 12, 119) :: ((119, 4, 120) :: (rws 120 6 ++ WR)))) (MF.take 63) Q) : PW X d (MF.take 242) mX10_init (MF.take 1) 137 [(2, 64)] [] (wr WI) (wr WR) (MF.take 55) Q := by
  refine P_aload_n (n := 0) (q := 138) rfl rfl (by decide +kernel) ?_
  refine T_new (ci := 8) (N := 5) (c := 119) (n := 55) (q := 141) cOK8 (by decide +kernel) (tGp2 0 rfl rfl) (tGp1 116 rfl rfl) (tGp1 8 rfl rfl) (by decide +kernel) (by decide) (by decide) (hI.up (by decide)) (hR.up (by decide)) rfl (by decide +kernel) ?_
  refine P_dup (Nat.ne_of_beq_eq_false rfl) (q := 142) rfl (by decide +kernel) ?_
  refine T_ctor (ci := 8) (n' := 63) (d' := 1) (As := []) (q := 145) oX8_init rfl (by decide +kernel) (by decide) (Or.inr kX10_72) (by omega) (by decide) (by decide) (by decide) (n_State_119 (hI.up (by decide)) (hR.up (by decide))) rfl (by decide +kernel) ?_
  refine T_putR wX10_77 rfl (fun _ => rfl) (by decide +kernel) (q := 148) rfl (by decide +kernel) ?_
  exact k (Lt.one (Lt.one (Lt.one (Lt.one (hI.up (by decide)) (by decide)) (by decide)) (by decide)) (by decide)) (Lt.one (Lt.one (Lt_rws (hR.up (by decide)) (by decide)) (by decide)) (by decide))
theorem n_Flight_127 {X : CX} {WI WR : List (Int × Int × Int)} (hI : Lt WI 128) (hR : Lt WR 128) : Callee X 1 mX1_init (MF.take 64) (MF.take 72) [(2, 127), (2, 72), (2, 111)] (wr WI) (wr WR) (fun _ I' R' => I' = wr ((127, 7, (-1)) :: ((127, 6, 0) :: ((127, 5, 0) :: ((127, 4, 0) :: ((127, 3, 0) :: WI))))) ∧ R' = wr ((127, 1, 111) :: ((127, 0, 72) :: ((127, 15, 135) :: ((127, 14, 134) :: ((127, 13, 133) :: ((127, 12, 132) :: ((127, 11, 131) :: ((127, 10, 130) :: ((127, 9, 129) :: ((127, 8, 128) :: ((127, 2, 0) :: WR)))))))))))) := by
  have e : ((MF.take 64).length : Int) = 64 := by decide +kernel
  have h := i_Flight (X := X) (M := MF.take 64) (WI := WI) (WR := WR) (o := 127) (a1 := 72) (a2 := 111) (by decide +kernel) (by rw [e]; exact hI.out) (by rw [e]; exact hR.out) (by rw [e]; decide)
  rw [e, show MF.take 64 ++ [(12, 6)] ++ [(12, 6)] ++ [(12, 81)] ++ [(12, 13)] ++ [(12, 10)] ++ [(12, 60)] ++ [(12, 81)] ++ [(12, 6)] = MF.take 72 by decide +kernel] at h
  exact h
theorem G_Xa_148 {X : CX} {d : Nat} {WI WR : List (Int × Int × Int)} {Q : PV → PF → PF → Prop} (hd : 3 ≤ d) (hI : Lt WI 127) (hR : Lt WR 127) (h1 : wr WR 64 8 = 72) (h2 : wr WR 64 11 = 111) (k : Lt ((127, 7, (-1)) :: ((127, 6, 0) :: ((127, 5, 0) :: ((127, 4, 0) :: ((127, 3, 0) :: WI))))) 136 → Lt ((64, 13, 127) :: ((127, 1, 111) :: ((127, 0, 72) :: ((127, 15, 135) :: ((127, 14, 134) :: ((127, 13, 133) :: ((127, 12, 132) :: ((127, 11, 131) :: ((127, 10, 130) :: ((127, 9, 129) :: ((127, 8, 128) :: ((127, 2, 0) :: WR)))))))))))) 136 → PW X d (MF.take 242) mX10_init (MF.take 1) 167 [(2, 64)] [] (wr ((127, 7, (-1)) :: ((127, 6, 0) :: ((127, 5, 0) :: ((127, 4, 0) :: ((127, 3, 0) :: WI)))))) (wr ((64, 13, 127) :: ((127, 1, 111) :: ((127, 0, 72) :: ((127, 15, 135) :: ((127, 14, 134) :: ((127, 13, 133) :: ((127, 12, 132) :: ((127, 11, 131) :: ((127, 10, 130) :: ((127, 9, 129) :: ((127, 8, 128) :: ((127, 2, 0) :: WR))))))))))))) (MF.take 72) Q) : PW X d (MF.take 242) mX10_init (MF.take 1) 148 [(2, 64)] [] (wr WI) (wr WR) (MF.take 63) Q := by
  refine P_aload_n (n := 0) (q := 149) rfl rfl (by decide +kernel) ?_
  refine T_new (ci := 1) (N := 16) (c := 127) (n := 63) (q := 152) cOK1 (by decide +kernel) (tGp2 2 rfl rfl) (tGp2 3 rfl rfl) (tGp1 10 rfl rfl) (by decide +kernel) (by decide) (by decide) (hI.up (by decide)) (hR.up (by decide)) rfl (by decide +kernel) ?_
  refine P_dup (Nat.ne_of_beq_eq_false rfl) (q := 153) rfl (by decide +kernel) ?_
  refine P_aload_n (n := 0) (q := 154) rfl rfl (by decide +kernel) ?_
  refine B_getfR fX10_54 (by decide +kernel) h1 (q := 157) rfl (by decide +kernel) ?_
  refine P_aload_n (n := 0) (q := 158) rfl rfl (by decide +kernel) ?_
  refine B_getfR fX10_73 (by decide +kernel) h2 (q := 161) rfl (by decide +kernel) ?_
  refine T_ctor (ci := 1) (n' := 72) (d' := 1) (As := [(2, 72), (2, 111)]) (q := 164) oX1_init rfl (by decide +kernel) (by decide) (Or.inl kX10_82) (by omega) (by decide) (by decide) (by decide) (n_Flight_127 (hI.up (by decide)) (hR.up (by decide))) rfl (by decide +kernel) ?_
  refine T_putR wX10_85 rfl (fun _ => rfl) (by decide +kernel) (q := 167) rfl (by decide +kernel) ?_
  exact k (Lt.one (Lt.one (Lt.one (Lt.one (Lt.one (hI.up (by decide)) (by decide)) (by decide)) (by decide)) (by decide)) (by decide)) (Lt.one (Lt.one (Lt.one (Lt.one (Lt.one (Lt.one (Lt.one (Lt.one (Lt.one (Lt.one (Lt.one (Lt.one (hR.up (by decide)) (by decide)) (by decide)) (by decide)) (by decide)) (by decide)) (by decide)) (by decide)) (by decide)) (by decide)) (by decide)) (by decide)) (by decide))
theorem G_Xa_167 {X : CX} {d : Nat} {WI WR : List (Int × Int × Int)} {Q : PV → PF → PF → Prop} (hd : 3 ≤ d) (hI : Lt WI 136) (hR : Lt WR 136) (k : Lt ((295, 3, 0) :: ((295, 2, 0) :: ((295, 1, (-1)) :: ((295, 0, 0) :: ((287, 3, 0) :: ((287, 2, 0) :: ((287, 1, (-1)) :: ((287, 0, 0) :: ((279, 3, 0) :: ((279, 2, 0) :: ((279, 1, (-1)) :: ((279, 0, 0) :: ((271, 3, 0) :: ((271, 2, 0) :: ((271, 1, (-1)) :: ((271, 0, 0) :: ((263, 3, 0) :: ((263, 2, 0) :: ((263, 1, (-1)) :: ((263, 0, 0) :: ((255, 3, 0) :: ((255, 2, 0) :: ((255, 1, (-1)) :: ((255, 0, 0) :: ((247, 3, 0) :: ((247, 2, 0) :: ((247, 1, (-1)) :: ((247, 0, 0) :: ((239, 3, 0) :: ((239, 2, 0) :: ((239, 1, (-1)) :: ((239, 0, 0) :: ((231, 3, 0) :: ((231, 2, 0) :: ((231, 1, (-1)) :: ((231, 0, 0) :: ((223, 3, 0) :: ((223, 2, 0) :: ((223, 1, (-1)) :: ((223, 0, 0) :: ((215, 3, 0) :: ((215, 2, 0) :: ((215, 1, (-1)) :: ((215, 0, 0) :: ((207, 3, 0) :: ((207, 2, 0) :: ((207, 1, (-1)) :: ((207, 0, 0) :: ((199, 3, 0) :: ((199, 2, 0) :: ((199, 1, (-1)) :: ((199, 0, 0) :: ((191, 3, 0) :: ((191, 2, 0) :: ((191, 1, (-1)) :: ((191, 0, 0) :: ((183, 3, 0) :: ((183, 2, 0) :: ((183, 1, (-1)) :: ((183, 0, 0) :: ((175, 3, 0) :: ((175, 2, 0) :: ((175, 1, (-1)) :: ((175, 0, 0) :: ((167, 3, 0) :: ((167, 2, 0) :: ((167, 1, (-1)) :: ((167, 0, 0) :: ((159, 3, 0) :: ((159, 2, 0) :: ((159, 1, (-1)) :: ((159, 0, 0) :: ((151, 3, 0) :: ((151, 2, 0) :: ((151, 1, (-1)) :: ((151, 0, 0) :: ((143, 3, 0) :: ((143, 2, 0) :: ((143, 1, (-1)) :: ((143, 0, 0) :: ((136, 5, 0) :: ((136, 4, 0) :: ((136, 1, 0) :: WI))))))))))))))))))))))))))))))))))))))))))))))))))))))))))))))))))))))))))))))))))) 303 → Lt ((64, 14, 136) :: ((141, 19, 295) :: ((295, 4, 296) :: (rws 296 6 ++ ((141, 18, 287) :: ((287, 4, 288) :: (rws 288 6 ++ ((141, 17, 279) :: ((279, 4, 280) :: (rws 280 6 ++ ((141, 16, 271) :: ((271, 4, 272) :: (rws 272 6 ++ ((141, 15, 263) :: ((263, 4, 264) :: (rws 264 6 ++ ((141, 14, 255) :: ((255, 4, 256) :: (rws 256 6 ++ ((141, 13, 247) :: ((247, 4, 248) :: (rws 248 6 ++ ((141, 12, 239) :: ((239, 4, 240) :: (rws 240 6 ++ ((141, 11, 231) :: ((231, 4, 232) :: (rws 232 6 ++ ((141, 10, 223) :: ((223, 4, 224) :: (rws 224 6 ++ ((141, 9, 215) :: ((215, 4, 216) :: (rws 216 6 ++ ((141, 8, 207) :: ((207, 4, 208) :: (rws 208 6 ++ ((141, 7, 199) :: ((199, 4, 200) :: (rws 200 6 ++ ((141, 6, 191) :: ((191, 4, 192) :: (rws 192 6 ++ ((141, 5, 183) :: ((183, 4, 184) :: (rws 184 6 ++ ((141, 4, 175) :: ((175, 4, 176) :: (rws 176 6 ++ ((141, 3, 167) :: ((167, 4, 168) :: (rws 168 6 ++ ((141, 2, 159) :: ((159, 4, 160) :: (rws 160 6 ++ ((141, 1, 151) :: ((151, 4, 152) :: (rws 152 6 ++ ((141, 0, 143) :: ((143, 4, 144) :: (rws 144 6 ++ ((136, 3, 142) :: ((136, 2, 141) :: ((136, 0, 137) :: (rws 137 3 ++ WR))))))))))))))))))))))))))))))))))))))))))))))))))))))))))))))))) 303 → PW X d (MF.take 242) mX10_init (MF.take 1) 178 [(2, 64)] [] (wr ((295, 3, 0) :: ((295, 2, 0) :: ((295, 1, (-1)) :: ((295, 0, 0) :: ((287, 3, 0) :: ((287, 2, 0) :: ((287, 1, (-1)) :: ((287, 0, 0) :: ((279, 3, 0) :: ((279, 2, 0) :: ((279, 1, (-1)) :: ((279, 0, 0) :: ((271, 3, 0) :: ((271, 2, 0) :: ((271, 1, (-1)) :: ((271, 0, 0) :: ((263, 3, 0) :: ((263, 2, 0) :: ((263, 1, (-1)) :: ((263, 0, 0) :: ((255, 3, 0) :: ((255, 2, 0) :: ((255, 1, (-1)) :: ((255, 0, 0) :: ((247, 3, 0) :: ((247, 2, 0) :: ((247, 1, (-1)) :: ((247, 0, 0) :: ((239, 3, 0) :: ((239, 2, 0) :: ((239, 1, (-1)) :: ((239, 0, 0) :: ((231, 3, 0) :: ((231, 2, 0) :: ((231, 1, (-1)) :: ((231, 0, 0) :: ((223, 3, 0) :: ((223, 2, 0) :: ((223, 1, (-1)) :: ((223, 0, 0) :: ((215, 3, 0) :: ((215, 2, 0) :: ((215, 1, (-1)) :: ((215, 0, 0) :: ((207, 3, 0) :: ((207, 2, 0) :: ((207, 1, (-1)) :: ((207, 0, 0) :: ((199, 3, 0) :: ((199, 2, 0) :: ((199, 1, (-1)) :: ((199, 0, 0) :: ((191, 3, 0) :: ((191, 2, 0) :: ((191, 1, (-1)) :: ((191, 0, 0) :: ((183, 3, 0) :: ((183, 2, 0) :: ((183, 1, (-1)) :: ((183, 0, 0) :: ((175, 3, 0) :: ((175, 2, 0) :: ((175, 1, (-1)) :: ((175, 0, 0) :: ((167, 3, 0) :: ((167, 2, 0) :: ((167, 1, (-1)) :: ((167, 0, 0) :: ((159, 3, 0) :: ((159, 2, 0) :: ((159, 1, (-1)) :: ((159, 0, 0) :: ((151, 3, 0) :: ((151, 2, 0) :: ((151, 1, (-1)) :: ((151, 0, 0) :: ((143, 3, 0) :: ((143, 2, 0) :: ((143, 1, (-1)) :: ((143, 0, 0) :: ((136, 5, 0) :: ((136, 4, 0) :: ((136, 1, 0) :: WI)))))))))))))))))))))))))))))))))))))))))))))))))))))))))))))))))))))))))))))))))))) (wr ((64, 14, 136) :: ((141, 19, 295) :: ((295, 4, 296) :: (rws 296 6 ++ ((141, 18, 287) :: ((287, 4, 288) :: (rws 288 6 ++ ((141, 17, 279) :: ((279, 4, 280) :: (rws 280 6 ++ ((141, 16, 271) :: ((271, 4, 272) :: (rws 272 6 ++ ((141, 15, 263) :: ((263, 4, 264) :: (rws 264 6 ++ ((141, 14, 255) :: ((255, 4, 256) :: (rws 256 6 ++ ((141, 13, 247) :: ((247, 4, 248) :: (rws 248 6 ++ ((141, 12, 239) :: ((239, 4, 240) :: (rws 240 6 ++ ((141, 11, 231) :: ((231, 4, 232) :: (rws 232 6 ++ ((141, 10, 223) :: ((223, 4, 224) :: (rws 224 6 ++ ((141, 9, 215) :: ((215, 4, 216) :: (rws 216 6 ++ ((141, 8, 207) :: ((207, 4, 208) :: (rws 208 6 ++ ((141, 7, 199) :: ((199, 4, 200) :: (rws 200 6 ++ ((141, 6, 191) :: ((191, 4, 192) :: (rws 192 6 ++ ((141, 5, 183) :: ((183, 4, 184) :: (rws 184 6 ++ ((141, 4, 175) :: ((175, 4, 176) :: (rws 176 6 ++ ((141, 3, 167) :: ((167, 4, 168) :: (rws 168 6 ++ ((141, 2, 159) :: ((159, 4, 160) :: (rws 160 6 ++ ((141, 1, 151) :: ((151, 4, 152) :: (rws 152 6 ++ ((141, 0, 143) :: ((143, 4, 144) :: (rws 144 6 ++ ((136, 3, 142) :: ((136, 2, 141) :: ((136, 0, 137) :: (rws 137 3 ++ WR)))))))))))))))))))))))))))))))))))))))))))))))))))))))))))))))))) (MF.take 239) Q) : PW X d (MF.take 242) mX10_init (MF.take 1) 167 [(2, 64)] [] (wr WI) (wr WR) (MF.take 72) Q := by
  refine P_aload_n (n := 0) (q := 168) rfl rfl (by decide +kernel) ?_
  refine T_new (ci := 4) (N := 6) (c := 136) (n := 72) (q := 171) cOK4 (by decide +kernel) (tGp2 61 rfl rfl) (tGp2 62 rfl rfl) (tGp1 11 rfl rfl) (by decide +kernel) (by decide) (by decide) (hI.up (by decide)) (hR.up (by decide)) rfl (by decide +kernel) ?_
  refine P_dup (Nat.ne_of_beq_eq_false rfl) (q := 172) rfl (by decide +kernel) ?_
  refine T_ctor (ci := 4) (n' := 239) (d' := 2) (As := []) (q := 175) oX4_init rfl (by decide +kernel) (by decide) (Or.inl kX10_91) (by omega) (by decide) (by decide) (by decide) (n_Past_136 (hI.up (by decide)) (hR.up (by decide))) rfl (by decide +kernel) ?_
  refine T_putR wX10_92 rfl (fun _ => rfl) (by decide +kernel) (q := 178) rfl (by decide +kernel) ?_
  exact k (Lt.one (Lt.one (Lt.one (Lt.one (Lt.one (Lt.one (Lt.one (Lt.one (Lt.one (Lt.one (Lt.one (Lt.one (Lt.one (Lt.one (Lt.one (Lt.one (Lt.one (Lt.one (Lt.one (Lt.one (Lt.one (Lt.one (Lt.one (Lt.one (Lt.one (Lt.one (Lt.one (Lt.one (Lt.one (Lt.one (Lt.one (Lt.one (Lt.one (Lt.one (Lt.one (Lt.one (Lt.one (Lt.one (Lt.one (Lt.one (Lt.one (Lt.one (Lt.one (Lt.one (Lt.one (Lt.one (Lt.one (Lt.one (Lt.one (Lt.one (Lt.one (Lt.one (Lt.one (Lt.one (Lt.one (Lt.one (Lt.one (Lt.one (Lt.one (Lt.one (Lt.one (Lt.one (Lt.one (Lt.one (Lt.one (Lt.one (Lt.one (Lt.one (Lt.one (Lt.one (Lt.one (Lt.one (Lt.one (Lt.one (Lt.one (Lt.one (Lt.one (Lt.one (Lt.one (Lt.one (Lt.one (Lt.one (Lt.one (hI.up (by decide)) (by decide)) (by decide)) (by decide)) (by decide)) (by decide)) (by decide)) (by decide)) (by decide)) (by decide)) (by decide)) (by decide)) (by decide)) (by decide)) (by decide)) (by decide)) (by decide)) (by decide)) (by decide)) (by decide)) (by decide)) (by decide)) (by decide)) (by decide)) (by decide)) (by decide)) (by decide)) (by decide)) (by decide)) (by decide)) (by decide)) (by decide)) (by decide)) (by decide)) (by decide)) (by decide)) (by decide)) (by decide)) (by decide)) (by decide)) (by decide)) (by decide)) (by decide)) (by decide)) (by decide)) (by decide)) (by decide)) (by decide)) (by decide)) (by decide)) (by decide)) (by decide)) (by decide)) (by decide)) (by decide)) (by decide)) (by decide)) (by decide)) (by decide)) (by decide)) (by decide)) (by decide)) (by decide)) (by decide)) (by decide)) (by decide)) (by decide)) (by decide)) (by decide)) (by decide)) (by decide)) (by decide)) (by decide)) (by decide)) (by decide)) (by decide)) (by decide)) (by decide)) (by decide)) (by decide)) (by decide)) (by decide)) (by decide)) (by decide)) (Lt.one (Lt.one (Lt.one (Lt_rws (Lt.one (Lt.one (Lt_rws (Lt.one (Lt.one (Lt_rws (Lt.one (Lt.one (Lt_rws (Lt.one (Lt.one (Lt_rws (Lt.one (Lt.one (Lt_rws (Lt.one (Lt.one (Lt_rws (Lt.one (Lt.one (Lt_rws (Lt.one (Lt.one (Lt_rws (Lt.one (Lt.one (Lt_rws (Lt.one (Lt.one (Lt_rws (Lt.one (Lt.one (Lt_rws (Lt.one (Lt.one (Lt_rws (Lt.one (Lt.one (Lt_rws (Lt.one (Lt.one (Lt_rws (Lt.one (Lt.one (Lt_rws (Lt.one (Lt.one (Lt_rws (Lt.one (Lt.one (Lt_rws (Lt.one (Lt.one (Lt_rws (Lt.one (Lt.one (Lt_rws (Lt.one (Lt.one (Lt.one (Lt_rws (hR.up (by decide)) (by decide)) (by decide)) (by decide)) (by decide)) (by decide)) (by decide)) (by decide)) (by decide)) (by decide)) (by decide)) (by decide)) (by decide)) (by decide)) (by decide)) (by decide)) (by decide)) (by decide)) (by decide)) (by decide)) (by decide)) (by decide)) (by decide)) (by decide)) (by decide)) (by decide)) (by decide)) (by decide)) (by decide)) (by decide)) (by decide)) (by decide)) (by decide)) (by decide)) (by decide)) (by decide)) (by decide)) (by decide)) (by decide)) (by decide)) (by decide)) (by decide)) (by decide)) (by decide)) (by decide)) (by decide)) (by decide)) (by decide)) (by decide)) (by decide)) (by decide)) (by decide)) (by decide)) (by decide)) (by decide)) (by decide)) (by decide)) (by decide)) (by decide)) (by decide)) (by decide)) (by decide)) (by decide)) (by decide)) (by decide)) (by decide))
theorem n_Dice_303 {X : CX} {WI WR : List (Int × Int × Int)} (hI : Lt WI 304) (hR : Lt WR 304) : Callee X 1 mX0_init (MF.take 240) (MF.take 240) [(2, 303)] (wr WI) (wr WR) (fun _ I' R' => I' = wr ((303, 1, 0) :: ((303, 0, 1) :: WI)) ∧ R' = wr WR) := by
  exact i_Dice (by decide +kernel)
theorem G_Xa_178 {X : CX} {d : Nat} {WI WR : List (Int × Int × Int)} {Q : PV → PF → PF → Prop} (hd : 3 ≤ d) (hI : Lt WI 303) (hR : Lt WR 303) (k : Lt ((303, 1, 0) :: ((303, 0, 1) :: WI)) 304 → Lt ((64, 15, 303) :: WR) 304 → PW X d (MF.take 242) mX10_init (MF.take 1) 189 [(2, 64)] [] (wr ((303, 1, 0) :: ((303, 0, 1) :: WI))) (wr ((64, 15, 303) :: WR)) (MF.take 240) Q) : PW X d (MF.take 242) mX10_init (MF.take 1) 178 [(2, 64)] [] (wr WI) (wr WR) (MF.take 239) Q := by
  refine P_aload_n (n := 0) (q := 179) rfl rfl (by decide +kernel) ?_
  refine T_new (ci := 0) (N := 2) (c := 303) (n := 239) (q := 182) cOK0 (by decide +kernel) (tGp2 91 rfl rfl) (tGp2 92 rfl rfl) (tGp1 12 rfl rfl) (by decide +kernel) (by decide) (by decide) (hI.up (by decide)) (hR.up (by decide)) rfl (by decide +kernel) ?_
  refine P_dup (Nat.ne_of_beq_eq_false rfl) (q := 183) rfl (by decide +kernel) ?_
  refine T_ctor (ci := 0) (n' := 240) (d' := 1) (As := []) (q := 186) oX0_init rfl (by decide +kernel) (by decide) (Or.inr kX10_98) (by omega) (by decide) (by decide) (by decide) (n_Dice_303 (hI.up (by decide)) (hR.up (by decide))) rfl (by decide +kernel) ?_
  refine T_putR wX10_99 rfl (fun _ => rfl) (by decide +kernel) (q := 189) rfl (by decide +kernel) ?_
  exact k (Lt.one (Lt.one (hI.up (by decide)) (by decide)) (by decide)) (Lt.one (hR.up (by decide)) (by decide))
theorem G_Xa_189 {X : CX} {d : Nat} {WI WR : List (Int × Int × Int)} {Q : PV → PF → PF → Prop} (hd : 3 ≤ d) (hI : Lt WI 304) (hR : Lt WR 304) (k : Lt WI 305 → Lt ((64, 16, 304) :: WR) 305 → PW X d (MF.take 242) mX10_init (MF.take 1) 197 [(2, 64)] [] (wr WI) (wr ((64, 16, 304) :: WR)) (MF.take 241) Q) : PW X d (MF.take 242) mX10_init (MF.take 1) 189 [(2, 64)] [] (wr WI) (wr WR) (MF.take 240) Q := by
  refine P_aload_n (n := 0) (q := 190) rfl rfl (by decide +kernel) ?_
  refine P_bipush (n := 7) (q := 192) rfl rfl (by decide +kernel) ?_
  refine T_newi (N := 7) (c := 304) (n := 240) (q := 194) rfl (by decide) (by decide +kernel) (by decide) (by decide) (hI.up (by decide)) (hR.up (by decide)) rfl (by decide +kernel) ?_
  refine T_putR wX10_103 rfl (fun _ => rfl) (by decide +kernel) (q := 197) rfl (by decide +kernel) ?_
  exact k (hI.up (by decide)) (Lt.one (hR.up (by decide)) (by decide))
theorem G_Xa_197 {X : CX} {d : Nat} {WI WR : List (Int × Int × Int)} {Q : PV → PF → PF → Prop} (hd : 3 ≤ d) (hI : Lt WI 305) (hR : Lt WR 305) (k : Lt ((64, 17, 0) :: WI) 305 → Lt WR 305 → PW X d (MF.take 242) mX10_init (MF.take 1) 202 [(2, 64)] [] (wr ((64, 17, 0) :: WI)) (wr WR) (MF.take 241) Q) : PW X d (MF.take 242) mX10_init (MF.take 1) 197 [(2, 64)] [] (wr WI) (wr WR) (MF.take 241) Q := by
  refine P_aload_n (n := 0) (q := 198) rfl rfl (by decide +kernel) ?_
  refine P_iconst (n := 0) (q := 199) rfl (by decide +kernel) ?_
  refine T_putI wX10_106 (fun h => by cases h) (by decide +kernel) (q := 202) rfl (by decide +kernel) ?_
  exact k (Lt.one (hI.up (by decide)) (by decide)) (hR.up (by decide))
theorem G_Xa_202 {X : CX} {d : Nat} {WI WR : List (Int × Int × Int)} {Q : PV → PF → PF → Prop} (hd : 3 ≤ d) (hI : Lt WI 305) (hR : Lt WR 305) (k : Lt WI 306 → Lt ((64, 18, 305) :: WR) 306 → PW X d (MF.take 242) mX10_init (MF.take 1) 210 [(2, 64)] [] (wr WI) (wr ((64, 18, 305) :: WR)) (MF.take 242) Q) : PW X d (MF.take 242) mX10_init (MF.take 1) 202 [(2, 64)] [] (wr WI) (wr WR) (MF.take 241) Q := by
  refine P_aload_n (n := 0) (q := 203) rfl rfl (by decide +kernel) ?_
  refine P_bipush (n := 41) (q := 205) rfl rfl (by decide +kernel) ?_
  refine T_newi (N := 41) (c := 305) (n := 241) (q := 207) rfl (by decide) (by decide +kernel) (by decide) (by decide) (hI.up (by decide)) (hR.up (by decide)) rfl (by decide +kernel) ?_
  refine T_putR wX10_109 rfl (fun _ => rfl) (by decide +kernel) (q := 210) rfl (by decide +kernel) ?_
  exact k (hI.up (by decide)) (Lt.one (hR.up (by decide)) (by decide))
theorem G_Xa_210 {X : CX} {d : Nat} {WI WR : List (Int × Int × Int)} {Q : PV → PF → PF → Prop} (hd : 3 ≤ d) (hI : Lt WI 306) (hR : Lt WR 306) (k : Lt ((64, 19, 0) :: WI) 306 → Lt WR 306 → PW X d (MF.take 242) mX10_init (MF.take 1) 215 [(2, 64)] [] (wr ((64, 19, 0) :: WI)) (wr WR) (MF.take 242) Q) : PW X d (MF.take 242) mX10_init (MF.take 1) 210 [(2, 64)] [] (wr WI) (wr WR) (MF.take 242) Q := by
  refine P_aload_n (n := 0) (q := 211) rfl rfl (by decide +kernel) ?_
  refine P_iconst (n := 0) (q := 212) rfl (by decide +kernel) ?_
  refine T_putI wX10_112 (fun h => by cases h) (by decide +kernel) (q := 215) rfl (by decide +kernel) ?_
  exact k (Lt.one (hI.up (by decide)) (by decide)) (hR.up (by decide))
def n_NoonHat_64_I : List (Int × Int × Int) := ((64, 19, 0) :: ((64, 17, 0) :: ((303, 1, 0) :: ((303, 0, 1) :: ((295, 3, 0) :: ((295, 2, 0) :: ((295, 1, (-1)) :: ((295, 0, 0) :: ((287, 3, 0) :: ((287, 2, 0) :: ((287, 1, (-1)) :: ((287, 0, 0) :: ((279, 3, 0) :: ((279, 2, 0) :: ((279, 1, (-1)) :: ((279, 0, 0) :: ((271, 3, 0) :: ((271, 2, 0) :: ((271, 1, (-1)) :: ((271, 0, 0) :: ((263, 3, 0) :: ((263, 2, 0) :: ((263, 1, (-1)) :: ((263, 0, 0) :: ((255, 3, 0) :: ((255, 2, 0) :: ((255, 1, (-1)) :: ((255, 0, 0) :: ((247, 3, 0) :: ((247, 2, 0) :: ((247, 1, (-1)) :: ((247, 0, 0) :: ((239, 3, 0) :: ((239, 2, 0) :: ((239, 1, (-1)) :: ((239, 0, 0) :: ((231, 3, 0) :: ((231, 2, 0) :: ((231, 1, (-1)) :: ((231, 0, 0) :: ((223, 3, 0) :: ((223, 2, 0) :: ((223, 1, (-1)) :: ((223, 0, 0) :: ((215, 3, 0) :: ((215, 2, 0) :: ((215, 1, (-1)) :: ((215, 0, 0) :: ((207, 3, 0) :: ((207, 2, 0) :: ((207, 1, (-1)) :: ((207, 0, 0) :: ((199, 3, 0) :: ((199, 2, 0) :: ((199, 1, (-1)) :: ((199, 0, 0) :: ((191, 3, 0) :: ((191, 2, 0) :: ((191, 1, (-1)) :: ((191, 0, 0) :: ((183, 3, 0) :: ((183, 2, 0) :: ((183, 1, (-1)) :: ((183, 0, 0) :: ((175, 3, 0) :: ((175, 2, 0) :: ((175, 1, (-1)) :: ((175, 0, 0) :: ((167, 3, 0) :: ((167, 2, 0) :: ((167, 1, (-1)) :: ((167, 0, 0) :: ((159, 3, 0) :: ((159, 2, 0) :: ((159, 1, (-1)) :: ((159, 0, 0) :: ((151, 3, 0) :: ((151, 2, 0) :: ((151, 1, (-1)) :: ((151, 0, 0) :: ((143, 3, 0) :: ((143, 2, 0) :: ((143, 1, (-1)) :: ((143, 0, 0) :: ((136, 5, 0) :: ((136, 4, 0) :: ((136, 1, 0) :: ((127, 7, (-1)) :: ((127, 6, 0) :: ((127, 5, 0) :: ((127, 4, 0) :: ((127, 3, 0) :: ((119, 3, 0) :: ((119, 2, 0) :: ((119, 1, (-1)) :: ((119, 0, 0) :: ((111, 3, 0) :: ((111, 2, 0) :: ((111, 1, (-1)) :: ((111, 0, 0) :: ((102, 3, 0) :: ((102, 2, 0) :: ((102, 1, (-1)) :: ((102, 0, 0) :: ((99, 2, 0) :: ((96, 2, 0) :: ((91, 7, 0) :: ((91, 6, 0) :: ((91, 5, 0) :: ((91, 4, 0) :: ((91, 3, 0) :: ((91, 2, 0) :: ((91, 1, 0) :: ((91, 0, 0) :: ((83, 3, 0) :: ((83, 2, 0) :: ((83, 1, (-1)) :: ((83, 0, 0) :: ((80, 2, 0) :: ((77, 2, 0) :: ((72, 7, 0) :: ((72, 6, 0) :: ((72, 5, 0) :: ((72, 4, 0) :: ((72, 3, 0) :: ((72, 2, 0) :: ((72, 1, 0) :: ((72, 0, 0) :: ((71, 3, 0) :: ((71, 2, 0) :: ((68, 2, 0) :: ((67, 9, (-1)) :: ((67, 8, 0) :: ((67, 7, 0) :: ((67, 5, 0) :: ((67, 4, 0) :: ((67, 3, 0) :: ((67, 2, 0) :: ((67, 1, 0) :: ((64, 4, (-1)) :: ((64, 3, 0) :: ((64, 1, 0) :: []))))))))))))))))))))))))))))))))))))))))))))))))))))))))))))))))))))))))))))))))))))))))))))))))))))))))))))))))))))))))))))))))))))))))))))))
def n_NoonHat_64_R : List (Int × Int × Int) := ((64, 18, 305) :: ((64, 16, 304) :: ((64, 15, 303) :: ((64, 14, 136) :: ((141, 19, 295) :: ((295, 4, 296) :: (rws 296 6 ++ ((141, 18, 287) :: ((287, 4, 288) :: (rws 288 6 ++ ((141, 17, 279) :: ((279, 4, 280) :: (rws 280 6 ++ ((141, 16, 271) :: ((271, 4, 272) :: (rws 272 6 ++ ((141, 15, 263) :: ((263, 4, 264) :: (rws 264 6 ++ ((141, 14, 255) :: ((255, 4, 256) :: (rws 256 6 ++ ((141, 13, 247) :: ((247, 4, 248) :: (rws 248 6 ++ ((141, 12, 239) :: ((239, 4, 240) :: (rws 240 6 ++ ((141, 11, 231) :: ((231, 4, 232) :: (rws 232 6 ++ ((141, 10, 223) :: ((223, 4, 224) :: (rws 224 6 ++ ((141, 9, 215) :: ((215, 4, 216) :: (rws 216 6 ++ ((141, 8, 207) :: ((207, 4, 208) :: (rws 208 6 ++ ((141, 7, 199) :: ((199, 4, 200) :: (rws 200 6 ++ ((141, 6, 191) :: ((191, 4, 192) :: (rws 192 6 ++ ((141, 5, 183) :: ((183, 4, 184) :: (rws 184 6 ++ ((141, 4, 175) :: ((175, 4, 176) :: (rws 176 6 ++ ((141, 3, 167) :: ((167, 4, 168) :: (rws 168 6 ++ ((141, 2, 159) :: ((159, 4, 160) :: (rws 160 6 ++ ((141, 1, 151) :: ((151, 4, 152) :: (rws 152 6 ++ ((141, 0, 143) :: ((143, 4, 144) :: (rws 144 6 ++ ((136, 3, 142) :: ((136, 2, 141) :: ((136, 0, 137) :: (rws 137 3 ++ ((64, 13, 127) :: ((127, 1, 111) :: ((127, 0, 72) :: ((127, 15, 135) :: ((127, 14, 134) :: ((127, 13, 133) :: ((127, 12, 132) :: ((127, 11, 131) :: ((127, 10, 130) :: ((127, 9, 129) :: ((127, 8, 128) :: ((127, 2, 0) :: ((64, 12, 119) :: ((119, 4, 120) :: (rws 120 6 ++ ((64, 11, 111) :: ((111, 4, 112) :: (rws 112 6 ++ ((64, 10, 110) :: ((110, 2, 91) :: ((110, 1, 71) :: ((110, 0, 67) :: ((64, 9, 91) :: ((91, 14, 102) :: ((102, 4, 103) :: (rws 103 6 ++ ((91, 13, 99) :: ((99, 1, 101) :: ((99, 0, 100) :: ((91, 12, 96) :: ((96, 1, 98) :: ((96, 0, 97) :: ((91, 11, 95) :: ((91, 10, 94) :: ((91, 9, 93) :: ((91, 8, 92) :: ((64, 8, 72) :: ((72, 14, 83) :: ((83, 4, 84) :: (rws 84 6 ++ ((72, 13, 80) :: ((80, 1, 82) :: ((80, 0, 81) :: ((72, 12, 77) :: ((77, 1, 79) :: ((77, 0, 78) :: ((72, 11, 76) :: ((72, 10, 75) :: ((72, 9, 74) :: ((72, 8, 73) :: ((64, 7, 71) :: ((71, 1, 68) :: ((71, 0, 67) :: ((64, 6, 68) :: ((68, 1, 70) :: ((68, 0, 69) :: ((64, 5, 67) :: ((67, 0, 65) :: ((67, 6, 1) :: ((64, 2, 66) :: ((64, 0, 65) :: [])))))))))))))))))))))))))))))))))))))))))))))))))))))))))))))))))))))))))))))))))))))))))))))))))))))))))))))))))))))))))))))))))
theorem n_NoonHat_64 {X : CX} : Callee X 3 mX10_init (MF.take 1) (MF.take 242) [(2, 64)] (wr []) (wr []) (fun _ I' R' => I' = wr n_NoonHat_64_I ∧ R' = wr n_NoonHat_64_R) := by
  have hI : Lt [] 65 := Lt.nil
  have hR : Lt [] 65 := Lt.nil
  refine callee_b (by decide +kernel) (Nat.le_of_ble_eq_true rfl) rfl ?_
  refine G_Xa_0 (Nat.le_refl _) hI hR ?_
  clear hI hR
  intro hI hR
  refine G_Xa_13 (Nat.le_refl _) hI hR ?_
  clear hI hR
  intro hI hR
  refine G_Xa_18 (Nat.le_refl _) hI hR ?_
  clear hI hR
  intro hI hR
  refine G_Xa_26 (Nat.le_refl _) hI hR ?_
  clear hI hR
  intro hI hR
  refine G_Xa_31 (Nat.le_refl _) hI hR ?_
  clear hI hR
  intro hI hR
  refine G_Xa_36 (Nat.le_refl _) hI hR (by decide +kernel) ?_
  clear hI hR
  intro hI hR
  refine G_Xa_51 (Nat.le_refl _) hI hR ?_
  clear hI hR
  intro hI hR
  refine G_Xa_62 (Nat.le_refl _) hI hR (by decide +kernel) (by decide +kernel) ?_
  clear hI hR
  intro hI hR
  refine G_Xa_81 (Nat.le_refl _) hI hR ?_
  clear hI hR
  intro hI hR
  refine G_Xa_92 (Nat.le_refl _) hI hR ?_
  clear hI hR
  intro hI hR
  refine G_Xa_103 (Nat.le_refl _) hI hR (by decide +kernel) (by decide +kernel) (by decide +kernel) ?_
  clear hI hR
  intro hI hR
  refine G_Xa_126 (Nat.le_refl _) hI hR ?_
  clear hI hR
  intro hI hR
  refine G_Xa_137 (Nat.le_refl _) hI hR ?_
  clear hI hR
  intro hI hR
  refine G_Xa_148 (Nat.le_refl _) hI hR (by decide +kernel) (by decide +kernel) ?_
  clear hI hR
  intro hI hR
  refine G_Xa_167 (Nat.le_refl _) hI hR ?_
  clear hI hR
  intro hI hR
  refine G_Xa_178 (Nat.le_refl _) hI hR ?_
  clear hI hR
  intro hI hR
  refine G_Xa_189 (Nat.le_refl _) hI hR ?_
  clear hI hR
  intro hI hR
  refine G_Xa_197 (Nat.le_refl _) hI hR ?_
  clear hI hR
  intro hI hR
  refine G_Xa_202 (Nat.le_refl _) hI hR ?_
  clear hI hR
  intro hI hR
  refine G_Xa_210 (Nat.le_refl _) hI hR ?_
  clear hI hR
  intro hI hR
  exact P_vret rfl (by decide +kernel) ⟨rfl, rfl⟩
