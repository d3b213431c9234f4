/-! ===== a square made ===== -/
theorem wX6_18 : FW RX6 18 6 2 .int false := ⟨_, _, _, cOK6, by decide, rfl, rfl, Or.inl ⟨tGp1 156 rfl rfl, fun _ => rfl⟩⟩
theorem wX6_21 : FW RX6 21 6 3 .int false := ⟨_, _, _, cOK6, by decide, rfl, rfl, Or.inl ⟨tGp1 158 rfl rfl, fun _ => rfl⟩⟩
theorem wX6_24 : FW RX6 24 6 4 .int false := ⟨_, _, _, cOK6, by decide, rfl, rfl, Or.inl ⟨tGp1 160 rfl rfl, fun _ => rfl⟩⟩
theorem wX6_36 : FW RX6 36 6 8 (.array .int) true := ⟨_, _, _, cOK6, by decide, rfl, rfl, Or.inl ⟨tGp1 172 rfl rfl, fun _ => rfl⟩⟩
theorem wX6_40 : FW RX6 40 6 9 (.array .int) true := ⟨_, _, _, cOK6, by decide, rfl, rfl, Or.inl ⟨tGp1 175 rfl rfl, fun _ => rfl⟩⟩
theorem wX6_43 : FW RX6 43 6 10 (.array .int) true := ⟨_, _, _, cOK6, by decide, rfl, rfl, Or.inl ⟨tGp1 178 rfl rfl, fun _ => rfl⟩⟩
theorem wX6_46 : FW RX6 46 6 11 (.array .int) true := ⟨_, _, _, cOK6, by decide, rfl, rfl, Or.inl ⟨tGp1 181 rfl rfl, fun _ => rfl⟩⟩
theorem wX6_52 : FW RX6 52 6 12 (.object "NoonHat$Formula") true := ⟨_, _, _, cOK6, by decide, rfl, rfl, Or.inl ⟨tGp1 184 rfl rfl, fun _ => rfl⟩⟩
theorem wX6_56 : FW RX6 56 6 13 (.object "NoonHat$Formula") true := ⟨_, _, _, cOK6, by decide, rfl, rfl, Or.inl ⟨tGp1 187 rfl rfl, fun _ => rfl⟩⟩
theorem wX6_62 : FW RX6 62 6 14 (.object "NoonHat$State") true := ⟨_, _, _, cOK6, by decide, rfl, rfl, Or.inl ⟨tGp1 190 rfl rfl, fun _ => rfl⟩⟩
theorem G_Sa_0 {X : CX} {d : Nat} {WI WR : List (Int × Int × Int)} {Q : PV → PF → PF → Prop} (hd : 2 ≤ d) (hI : Lt WI 73) (hR : Lt WR 73) (k : Lt ((72, 0, 0) :: WI) 73 → Lt WR 73 → PW X d (MF.take 27) mX6_init (MF.take 9) 9 [(2, 72)] [] (wr ((72, 0, 0) :: WI)) (wr WR) (MF.take 9) Q) : PW X d (MF.take 27) mX6_init (MF.take 9) 0 [(2, 72)] [] (wr WI) (wr WR) (MF.take 9) Q := by
  refine P_aload_n (n := 0) (q := 1) rfl rfl (by decide +kernel) ?_
  refine P_objInit (ci := 6) (q := 4) (by decide +kernel) (by decide) (tGp1 112 rfl rfl) (tGp1 24 rfl rfl) (tGp1 25 rfl rfl) (by omega) (by decide) rfl (by decide +kernel) ?_
  refine P_aload_n (n := 0) (q := 5) rfl rfl (by decide +kernel) ?_
  refine P_iconst (n := 0) (q := 6) rfl (by decide +kernel) ?_
  refine T_putI wX6_9 (fun h => by cases h) (by decide +kernel) (q := 9) rfl (by decide +kernel) ?_
  exact k (Lt.one (hI.up (by decide)) (by decide)) (hR.up (by decide))
theorem G_Sa_9 {X : CX} {d : Nat} {WI WR : List (Int × Int × Int)} {Q : PV → PF → PF → Prop} (hd : 2 ≤ d) (hI : Lt WI 73) (hR : Lt WR 73) (k : Lt ((72, 1, 0) :: WI) 73 → Lt WR 73 → PW X d (MF.take 27) mX6_init (MF.take 9) 14 [(2, 72)] [] (wr ((72, 1, 0) :: WI)) (wr WR) (MF.take 9) Q) : PW X d (MF.take 27) mX6_init (MF.take 9) 9 [(2, 72)] [] (wr WI) (wr WR) (MF.take 9) Q := by
  refine P_aload_n (n := 0) (q := 10) rfl rfl (by decide +kernel) ?_
  refine P_iconst (n := 0) (q := 11) rfl (by decide +kernel) ?_
  refine T_putI wX6_15 (fun h => by cases h) (by decide +kernel) (q := 14) rfl (by decide +kernel) ?_
  exact k (Lt.one (hI.up (by decide)) (by decide)) (hR.up (by decide))
theorem G_Sa_14 {X : CX} {d : Nat} {WI WR : List (Int × Int × Int)} {Q : PV → PF → PF → Prop} (hd : 2 ≤ d) (hI : Lt WI 73) (hR : Lt WR 73) (k : Lt ((72, 2, 0) :: WI) 73 → Lt WR 73 → PW X d (MF.take 27) mX6_init (MF.take 9) 19 [(2, 72)] [] (wr ((72, 2, 0) :: WI)) (wr WR) (MF.take 9) Q) : PW X d (MF.take 27) mX6_init (MF.take 9) 14 [(2, 72)] [] (wr WI) (wr WR) (MF.take 9) Q := by
  refine P_aload_n (n := 0) (q := 15) rfl rfl (by decide +kernel) ?_
  refine P_iconst (n := 0) (q := 16) rfl (by decide +kernel) ?_
  refine T_putI wX6_18 (fun h => by cases h) (by decide +kernel) (q := 19) rfl (by decide +kernel) ?_
  exact k (Lt.one (hI.up (by decide)) (by decide)) (hR.up (by decide))
theorem G_Sa_19 {X : CX} {d : Nat} {WI WR : List (Int × Int × Int)} {Q : PV → PF → PF → Prop} (hd : 2 ≤ d) (hI : Lt WI 73) (hR : Lt WR 73) (k : Lt ((72, 3, 0) :: WI) 73 → Lt WR 73 → PW X d (MF.take 27) mX6_init (MF.take 9) 24 [(2, 72)] [] (wr ((72, 3, 0) :: WI)) (wr WR) (MF.take 9) Q) : PW X d (MF.take 27) mX6_init (MF.take 9) 19 [(2, 72)] [] (wr WI) (wr WR) (MF.take 9) Q := by
  refine P_aload_n (n := 0) (q := 20) rfl rfl (by decide +kernel) ?_
  refine P_iconst (n := 0) (q := 21) rfl (by decide +kernel) ?_
  refine T_putI wX6_21 (fun h => by cases h) (by decide +kernel) (q := 24) rfl (by decide +kernel) ?_
  exact k (Lt.one (hI.up (by decide)) (by decide)) (hR.up (by decide))
theorem G_Sa_24 {X : CX} {d : Nat} {WI WR : List (Int × Int × Int)} {Q : PV → PF → PF → Prop} (hd : 2 ≤ d) (hI : Lt WI 73) (hR : Lt WR 73) (k : Lt ((72, 4, 0) :: WI) 73 → Lt WR 73 → PW X d (MF.take 27) mX6_init (MF.take 9) 29 [(2, 72)] [] (wr ((72, 4, 0) :: WI)) (wr WR) (MF.take 9) Q) : PW X d (MF.take 27) mX6_init (MF.take 9) 24 [(2, 72)] [] (wr WI) (wr WR) (MF.take 9) Q := by
  refine P_aload_n (n := 0) (q := 25) rfl rfl (by decide +kernel) ?_
  refine P_iconst (n := 0) (q := 26) rfl (by decide +kernel) ?_
  refine T_putI wX6_24 (fun h => by cases h) (by decide +kernel) (q := 29) rfl (by decide +kernel) ?_
  exact k (Lt.one (hI.up (by decide)) (by decide)) (hR.up (by decide))
theorem G_Sa_29 {X : CX} {d : Nat} {WI WR : List (Int × Int × Int)} {Q : PV → PF → PF → Prop} (hd : 2 ≤ d) (hI : Lt WI 73) (hR : Lt WR 73) (k : Lt ((72, 5, 0) :: WI) 73 → Lt WR 73 → PW X d (MF.take 27) mX6_init (MF.take 9) 34 [(2, 72)] [] (wr ((72, 5, 0) :: WI)) (wr WR) (MF.take 9) Q) : PW X d (MF.take 27) mX6_init (MF.take 9) 29 [(2, 72)] [] (wr WI) (wr WR) (MF.take 9) Q := by
  refine P_aload_n (n := 0) (q := 30) rfl rfl (by decide +kernel) ?_
  refine P_iconst (n := 0) (q := 31) rfl (by decide +kernel) ?_
  refine T_putI wX6_27 (fun h => by cases h) (by decide +kernel) (q := 34) rfl (by decide +kernel) ?_
  exact k (Lt.one (hI.up (by decide)) (by decide)) (hR.up (by decide))
theorem G_Sa_34 {X : CX} {d : Nat} {WI WR : List (Int × Int × Int)} {Q : PV → PF → PF → Prop} (hd : 2 ≤ d) (hI : Lt WI 73) (hR : Lt WR 73) (k : Lt ((72, 6, 0) :: WI) 73 → Lt WR 73 → PW X d (MF.take 27) mX6_init (MF.take 9) 39 [(2, 72)] [] (wr ((72, 6, 0) :: WI)) (wr WR) (MF.take 9) Q) : PW X d (MF.take 27) mX6_init (MF.take 9) 34 [(2, 72)] [] (wr WI) (wr WR) (MF.take 9) Q := by
  refine P_aload_n (n := 0) (q := 35) rfl rfl (by decide +kernel) ?_
  refine P_iconst (n := 0) (q := 36) rfl (by decide +kernel) ?_
  refine T_putI wX6_30 (fun h => by cases h) (by decide +kernel) (q := 39) rfl (by decide +kernel) ?_
  exact k (Lt.one (hI.up (by decide)) (by decide)) (hR.up (by decide))
theorem G_Sa_39 {X : CX} {d : Nat} {WI WR : List (Int × Int × Int)} {Q : PV → PF → PF → Prop} (hd : 2 ≤ d) (hI : Lt WI 73) (hR : Lt WR 73) (k : Lt ((72, 7, 0) :: WI) 73 → Lt WR 73 → PW X d (MF.take 27) mX6_init (MF.take 9) 44 [(2, 72)] [] (wr ((72, 7, 0) :: WI)) (wr WR) (MF.take 9) Q) : PW X d (MF.take 27) mX6_init (MF.take 9) 39 [(2, 72)] [] (wr WI) (wr WR) (MF.take 9) Q := by
  refine P_aload_n (n := 0) (q := 40) rfl rfl (by decide +kernel) ?_
  refine P_iconst (n := 0) (q := 41) rfl (by decide +kernel) ?_
  refine T_putI wX6_33 (fun h => by cases h) (by decide +kernel) (q := 44) rfl (by decide +kernel) ?_
  exact k (Lt.one (hI.up (by decide)) (by decide)) (hR.up (by decide))
theorem G_Sa_44 {X : CX} {d : Nat} {WI WR : List (Int × Int × Int)} {Q : PV → PF → PF → Prop} (hd : 2 ≤ d) (hI : Lt WI 73) (hR : Lt WR 73) (k : Lt WI 74 → Lt ((72, 8, 73) :: WR) 74 → PW X d (MF.take 27) mX6_init (MF.take 9) 52 [(2, 72)] [] (wr WI) (wr ((72, 8, 73) :: WR)) (MF.take 10) Q) : PW X d (MF.take 27) mX6_init (MF.take 9) 44 [(2, 72)] [] (wr WI) (wr WR) (MF.take 9) Q := by
  refine P_aload_n (n := 0) (q := 45) rfl rfl (by decide +kernel) ?_
  refine P_bipush (n := 6) (q := 47) rfl rfl (by decide +kernel) ?_
  refine T_newi (N := 6) (c := 73) (n := 9) (q := 49) rfl (by decide) (by decide +kernel) (by decide) (by decide) (hI.up (by decide)) (hR.up (by decide)) rfl (by decide +kernel) ?_
  refine T_putR wX6_36 rfl (fun _ => rfl) (by decide +kernel) (q := 52) rfl (by decide +kernel) ?_
  exact k (hI.up (by decide)) (Lt.one (hR.up (by decide)) (by decide))
theorem G_Sa_52 {X : CX} {d : Nat} {WI WR : List (Int × Int × Int)} {Q : PV → PF → PF → Prop} (hd : 2 ≤ d) (hI : Lt WI 74) (hR : Lt WR 74) (k : Lt WI 75 → Lt ((72, 9, 74) :: WR) 75 → PW X d (MF.take 27) mX6_init (MF.take 9) 60 [(2, 72)] [] (wr WI) (wr ((72, 9, 74) :: WR)) (MF.take 11) Q) : PW X d (MF.take 27) mX6_init (MF.take 9) 52 [(2, 72)] [] (wr WI) (wr WR) (MF.take 10) Q := by
  refine P_aload_n (n := 0) (q := 53) rfl rfl (by decide +kernel) ?_
  refine P_bipush (n := 6) (q := 55) rfl rfl (by decide +kernel) ?_
  refine T_newi (N := 6) (c := 74) (n := 10) (q := 57) rfl (by decide) (by decide +kernel) (by decide) (by decide) (hI.up (by decide)) (hR.up (by decide)) rfl (by decide +kernel) ?_
  refine T_putR wX6_40 rfl (fun _ => rfl) (by decide +kernel) (q := 60) rfl (by decide +kernel) ?_
  exact k (hI.up (by decide)) (Lt.one (hR.up (by decide)) (by decide))
theorem G_Sa_60 {X : CX} {d : Nat} {WI WR : List (Int × Int × Int)} {Q : PV → PF → PF → Prop} (hd : 2 ≤ d) (hI : Lt WI 75) (hR : Lt WR 75) (k : Lt WI 76 → Lt ((72, 10, 75) :: WR) 76 → PW X d (MF.take 27) mX6_init (MF.take 9) 68 [(2, 72)] [] (wr WI) (wr ((72, 10, 75) :: WR)) (MF.take 12) Q) : PW X d (MF.take 27) mX6_init (MF.take 9) 60 [(2, 72)] [] (wr WI) (wr WR) (MF.take 11) Q := by
  refine P_aload_n (n := 0) (q := 61) rfl rfl (by decide +kernel) ?_
  refine P_bipush (n := 81) (q := 63) rfl rfl (by decide +kernel) ?_
  refine T_newi (N := 81) (c := 75) (n := 11) (q := 65) rfl (by decide) (by decide +kernel) (by decide) (by decide) (hI.up (by decide)) (hR.up (by decide)) rfl (by decide +kernel) ?_
  refine T_putR wX6_43 rfl (fun _ => rfl) (by decide +kernel) (q := 68) rfl (by decide +kernel) ?_
  exact k (hI.up (by decide)) (Lt.one (hR.up (by decide)) (by decide))
theorem G_Sa_68 {X : CX} {d : Nat} {WI WR : List (Int × Int × Int)} {Q : PV → PF → PF → Prop} (hd : 2 ≤ d) (hI : Lt WI 76) (hR : Lt WR 76) (k : Lt WI 77 → Lt ((72, 11, 76) :: WR) 77 → PW X d (MF.take 27) mX6_init (MF.take 9) 76 [(2, 72)] [] (wr WI) (wr ((72, 11, 76) :: WR)) (MF.take 13) Q) : PW X d (MF.take 27) mX6_init (MF.take 9) 68 [(2, 72)] [] (wr WI) (wr WR) (MF.take 12) Q := by
  refine P_aload_n (n := 0) (q := 69) rfl rfl (by decide +kernel) ?_
  refine P_bipush (n := 33) (q := 71) rfl rfl (by decide +kernel) ?_
  refine T_newi (N := 33) (c := 76) (n := 12) (q := 73) rfl (by decide) (by decide +kernel) (by decide) (by decide) (hI.up (by decide)) (hR.up (by decide)) rfl (by decide +kernel) ?_
  refine T_putR wX6_46 rfl (fun _ => rfl) (by decide +kernel) (q := 76) rfl (by decide +kernel) ?_
  exact k (hI.up (by decide)) (Lt.one (hR.up (by decide)) (by decide))
theorem n_Formula_77 {X : CX} {WI WR : List (Int × Int × Int)} (hI : Lt WI 78) (hR : Lt WR 78) : Callee X 1 mX2_init (MF.take 14) (MF.take 16) [(2, 77)] (wr WI) (wr WR) (fun _ I' R' => I' = wr ((77, 2, 0) :: WI) ∧ R' = wr ((77, 1, 79) :: ((77, 0, 78) :: WR))) := by
  have e : ((MF.take 14).length : Int) = 14 := by decide +kernel
  have h := i_Formula (X := X) (M := MF.take 14) (WI := WI) (WR := WR) (o := 77) (by decide +kernel) (by rw [e]; exact hI.out) (by rw [e]; exact hR.out) (by rw [e]; decide)
  rw [e, show MF.take 14 ++ [(12, 1600)] ++ [(12, 64)] = MF.take 16 by decide +kernel] at h
  exact h
theorem G_Sa_76 {X : CX} {d : Nat} {WI WR : List (Int × Int × Int)} {Q : PV → PF → PF → Prop} (hd : 2 ≤ d) (hI : Lt WI 77) (hR : Lt WR 77) (k : Lt ((77, 2, 0) :: WI) 80 → Lt ((72, 12, 77) :: ((77, 1, 79) :: ((77, 0, 78) :: WR))) 80 → PW X d (MF.take 27) mX6_init (MF.take 9) 87 [(2, 72)] [] (wr ((77, 2, 0) :: WI)) (wr ((72, 12, 77) :: ((77, 1, 79) :: ((77, 0, 78) :: WR)))) (MF.take 16) Q) : PW X d (MF.take 27) mX6_init (MF.take 9) 76 [(2, 72)] [] (wr WI) (wr WR) (MF.take 13) Q := by
  refine P_aload_n (n := 0) (q := 77) rfl rfl (by decide +kernel) ?_
  refine T_new (ci := 2) (N := 3) (c := 77) (n := 13) (q := 80) cOK2 (by decide +kernel) (tGp1 113 rfl rfl) (tGp1 73 rfl rfl) (tGp1 5 rfl rfl) (by decide +kernel) (by decide) (by decide) (hI.up (by decide)) (hR.up (by decide)) rfl (by decide +kernel) ?_
  refine P_dup (Nat.ne_of_beq_eq_false rfl) (q := 81) rfl (by decide +kernel) ?_
  refine T_ctor (ci := 2) (n' := 16) (d' := 1) (As := []) (q := 84) oX2_init rfl (by decide +kernel) (by decide) (Or.inr kX6_51) (by omega) (by decide) (by decide) (by decide) (n_Formula_77 (hI.up (by decide)) (hR.up (by decide))) rfl (by decide +kernel) ?_
  refine T_putR wX6_52 rfl (fun _ => rfl) (by decide +kernel) (q := 87) rfl (by decide +kernel) ?_
  exact k (Lt.one (hI.up (by decide)) (by decide)) (Lt.one (Lt.one (Lt.one (hR.up (by decide)) (by decide)) (by decide)) (by decide))
theorem n_Formula_80 {X : CX} {WI WR : List (Int × Int × Int)} (hI : Lt WI 81) (hR : Lt WR 81) : Callee X 1 mX2_init (MF.take 17) (MF.take 19) [(2, 80)] (wr WI) (wr WR) (fun _ I' R' => I' = wr ((80, 2, 0) :: WI) ∧ R' = wr ((80, 1, 82) :: ((80, 0, 81) :: WR))) := by
  have e : ((MF.take 17).length : Int) = 17 := by decide +kernel
  have h := i_Formula (X := X) (M := MF.take 17) (WI := WI) (WR := WR) (o := 80) (by decide +kernel) (by rw [e]; exact hI.out) (by rw [e]; exact hR.out) (by rw [e]; decide)
  rw [e, show MF.take 17 ++ [(12, 1600)] ++ [(12, 64)] = MF.take 19 by decide +kernel] at h
  exact h
theorem G_Sa_87 {X : CX} {d : Nat} {WI WR : List (Int × Int × Int)} {Q : PV → PF → PF → Prop} (hd : 2 ≤ d) (hI : Lt WI 80) (hR : Lt WR 80) (k : Lt ((80, 2, 0) :: WI) 83 → Lt ((72, 13, 80) :: ((80, 1, 82) :: ((80, 0, 81) :: WR))) 83 → PW X d (MF.take 27) mX6_init (MF.take 9) 98 [(2, 72)] [] (wr ((80, 2, 0) :: WI)) (wr ((72, 13, 80) :: ((80, 1, 82) :: ((80, 0, 81) :: WR)))) (MF.take 19) Q) : PW X d (MF.take 27) mX6_init (MF.take 9) 87 [(2, 72)] [] (wr WI) (wr WR) (MF.take 16) Q := by
  refine P_aload_n (n := 0) (q := 88) rfl rfl (by decide +kernel) ?_
  refine T_new (ci := 2) (N := 3) (c := 80) (n := 16) (q := 91) cOK2 (by decide +kernel) (tGp1 113 rfl rfl) (tGp1 73 rfl rfl) (tGp1 5 rfl rfl) (by decide +kernel) (by decide) (by decide) (hI.up (by decide)) (hR.up (by decide)) rfl (by decide +kernel) ?_
  refine P_dup (Nat.ne_of_beq_eq_false rfl) (q := 92) rfl (by decide +kernel) ?_
  refine T_ctor (ci := 2) (n' := 19) (d' := 1) (As := []) (q := 95) oX2_init rfl (by decide +kernel) (by decide) (Or.inr kX6_51) (by omega) (by decide) (by decide) (by decide) (n_Formula_80 (hI.up (by decide)) (hR.up (by decide))) rfl (by decide +kernel) ?_
  refine T_putR wX6_56 rfl (fun _ => rfl) (by decide +kernel) (q := 98) rfl (by decide +kernel) ?_
  exact k (Lt.one (hI.up (by decide)) (by decide)) (Lt.one (Lt.one (Lt.one (hR.up (by decide)) (by decide)) (by decide)) (by decide))
theorem n_State_83 {X : CX} {WI WR : List (Int × Int × Int)} (hI : Lt WI 84) (hR : Lt WR 84) : Callee X 1 mX8_init (MF.take 20) (MF.take 27) [(2, 83)] (wr WI) (wr WR) (fun _ I' R' => I' = wr ((83, 3, 0) :: ((83, 2, 0) :: ((83, 1, (-1)) :: ((83, 0, 0) :: WI)))) ∧ R' = wr ((83, 4, 84) :: (rws 84 6 ++ WR))) := by
  have e : ((MF.take 20).length : Int) = 20 := by decide +kernel
  have h := i_State (X := X) (M := MF.take 20) (WI := WI) (WR := WR) (o := 83) (by decide +kernel) (by decide +kernel) (by rw [e]; exact hI.out) (by rw [e]; exact hR.out) (by rw [e]; decide)
  rw [e, show MF.take 20 ++ (15, 6) :: List.replicate 6 (12, 8) = MF.take 27 by decide +kernel] at h
  exact h
theorem G_Sa_98 {X : CX} {d : Nat} {WI WR : List (Int × Int × Int)} {Q : PV → PF → PF → Prop} (hd : 2 ≤ d) (hI : Lt WI 83) (hR : Lt WR 83) (k : Lt ((83, 3, 0) :: ((83, 2, 0) :: ((83, 1, (-1)) :: ((83, 0, 0) :: WI)))) 91 → Lt ((72, 14, 83) :: ((83, 4, 84) :: (rws 84 6 ++ WR))) 91 → PW X d (MF.take 27) mX6_init (MF.take 9) 109 [(2, 72)] [] (wr ((83, 3, 0) :: ((83, 2, 0) :: ((83, 1, (-1)) :: ((83, 0, 0) :: WI))))) (wr ((72, 14, 83) :: ((83, 4, 84) :: (rws 84 6 ++ WR)))) (MF.take 27) Q) : PW X d (MF.take 27) mX6_init (MF.take 9) 98 [(2, 72)] [] (wr WI) (wr WR) (MF.take 19) Q := by
  refine P_aload_n (n := 0) (q := 99) rfl rfl (by decide +kernel) ?_
  refine T_new (ci := 8) (N := 5) (c := 83) (n := 19) (q := 102) cOK8 (by decide +kernel) (tGp1 115 rfl rfl) (tGp1 116 rfl rfl) (tGp1 8 rfl rfl) (by decide +kernel) (by decide) (by decide) (hI.up (by decide)) (hR.up (by decide)) rfl (by decide +kernel) ?_
  refine P_dup (Nat.ne_of_beq_eq_false rfl) (q := 103) rfl (by decide +kernel) ?_
  refine T_ctor (ci := 8) (n' := 27) (d' := 1) (As := []) (q := 106) oX8_init rfl (by decide +kernel) (by decide) (Or.inr kX6_61) (by omega) (by decide) (by decide) (by decide) (n_State_83 (hI.up (by decide)) (hR.up (by decide))) rfl (by decide +kernel) ?_
  refine T_putR wX6_62 rfl (fun _ => rfl) (by decide +kernel) (q := 109) rfl (by decide +kernel) ?_
  exact k (Lt.one (Lt.one (Lt.one (Lt.one (hI.up (by decide)) (by decide)) (by decide)) (by decide)) (by decide)) (Lt.one (Lt.one (Lt_rws (hR.up (by decide)) (by decide)) (by decide)) (by decide))
def n_Square_72_I (W : List (Int × Int × Int)) : List (Int × Int × Int) := ((83, 3, 0) :: ((83, 2, 0) :: ((83, 1, (-1)) :: ((83, 0, 0) :: ((80, 2, 0) :: ((77, 2, 0) :: ((72, 7, 0) :: ((72, 6, 0) :: ((72, 5, 0) :: ((72, 4, 0) :: ((72, 3, 0) :: ((72, 2, 0) :: ((72, 1, 0) :: ((72, 0, 0) :: W))))))))))))))
def n_Square_72_R (W : List (Int × Int × Int)) : List (Int × Int × Int) := ((72, 14, 83) :: ((83, 4, 84) :: (rws 84 6 ++ ((72, 13, 80) :: ((80, 1, 82) :: ((80, 0, 81) :: ((72, 12, 77) :: ((77, 1, 79) :: ((77, 0, 78) :: ((72, 11, 76) :: ((72, 10, 75) :: ((72, 9, 74) :: ((72, 8, 73) :: W)))))))))))))
theorem n_Square_72 {X : CX} {WI WR : List (Int × Int × Int)} (hI : Lt WI 73) (hR : Lt WR 73) : Callee X 2 mX6_init (MF.take 9) (MF.take 27) [(2, 72)] (wr WI) (wr WR) (fun _ I' R' => I' = wr (n_Square_72_I WI) ∧ R' = wr (n_Square_72_R WR)) := by
  refine callee_b (by decide +kernel) (Nat.le_of_ble_eq_true rfl) rfl ?_
  refine G_Sa_0 (Nat.le_refl _) hI hR ?_
  clear hI hR
  intro hI hR
  refine G_Sa_9 (Nat.le_refl _) hI hR ?_
  clear hI hR
  intro hI hR
  refine G_Sa_14 (Nat.le_refl _) hI hR ?_
  clear hI hR
  intro hI hR
  refine G_Sa_19 (Nat.le_refl _) hI hR ?_
  clear hI hR
  intro hI hR
  refine G_Sa_24 (Nat.le_refl _) hI hR ?_
  clear hI hR
  intro hI hR
  refine G_Sa_29 (Nat.le_refl _) hI hR ?_
  clear hI hR
  intro hI hR
  refine G_Sa_34 (Nat.le_refl _) hI hR ?_
  clear hI hR
  intro hI hR
  refine G_Sa_39 (Nat.le_refl _) hI hR ?_
  clear hI hR
  intro hI hR
  refine G_Sa_44 (Nat.le_refl _) hI hR ?_
  clear hI hR
  intro hI hR
  refine G_Sa_52 (Nat.le_refl _) hI hR ?_
  clear hI hR
  intro hI hR
  refine G_Sa_60 (Nat.le_refl _) hI hR ?_
  clear hI hR
  intro hI hR
  refine G_Sa_68 (Nat.le_refl _) hI hR ?_
  clear hI hR
  intro hI hR
  refine G_Sa_76 (Nat.le_refl _) hI hR ?_
  clear hI hR
  intro hI hR
  refine G_Sa_87 (Nat.le_refl _) hI hR ?_
  clear hI hR
  intro hI hR
  refine G_Sa_98 (Nat.le_refl _) hI hR ?_
  clear hI hR
  intro hI hR
  exact P_vret rfl (by decide +kernel) ⟨rfl, rfl⟩
theorem G_Sb_0 {X : CX} {d : Nat} {WI WR : List (Int × Int × Int)} {Q : PV → PF → PF → Prop} (hd : 2 ≤ d) (hI : Lt WI 92) (hR : Lt WR 92) (k : Lt ((91, 0, 0) :: WI) 92 → Lt WR 92 → PW X d (MF.take 46) mX6_init (MF.take 28) 9 [(2, 91)] [] (wr ((91, 0, 0) :: WI)) (wr WR) (MF.take 28) Q) : PW X d (MF.take 46) mX6_init (MF.take 28) 0 [(2, 91)] [] (wr WI) (wr WR) (MF.take 28) Q := by
  refine P_aload_n (n := 0) (q := 1) rfl rfl (by decide +kernel) ?_
  refine P_objInit (ci := 6) (q := 4) (by decide +kernel) (by decide) (tGp1 112 rfl rfl) (tGp1 24 rfl rfl) (tGp1 25 rfl rfl) (by omega) (by decide) rfl (by decide +kernel) ?_
  refine P_aload_n (n := 0) (q := 5) rfl rfl (by decide +kernel) ?_
  refine P_iconst (n := 0) (q := 6) rfl (by decide +kernel) ?_
  refine T_putI wX6_9 (fun h => by cases h) (by decide +kernel) (q := 9) rfl (by decide +kernel) ?_
  exact k (Lt.one (hI.up (by decide)) (by decide)) (hR.up (by decide))
theorem G_Sb_9 {X : CX} {d : Nat} {WI WR : List (Int × Int × Int)} {Q : PV → PF → PF → Prop} (hd : 2 ≤ d) (hI : Lt WI 92) (hR : Lt WR 92) (k : Lt ((91, 1, 0) :: WI) 92 → Lt WR 92 → PW X d (MF.take 46) mX6_init (MF.take 28) 14 [(2, 91)] [] (wr ((91, 1, 0) :: WI)) (wr WR) (MF.take 28) Q) : PW X d (MF.take 46) mX6_init (MF.take 28) 9 [(2, 91)] [] (wr WI) (wr WR) (MF.take 28) Q := by
  refine P_aload_n (n := 0) (q := 10) rfl rfl (by decide +kernel) ?_
  refine P_iconst (n := 0) (q := 11) rfl (by decide +kernel) ?_
  refine T_putI wX6_15 (fun h => by cases h) (by decide +kernel) (q := 14) rfl (by decide +kernel) ?_
  exact k (Lt.one (hI.up (by decide)) (by decide)) (hR.up (by decide))
theorem G_Sb_14 {X : CX} {d : Nat} {WI WR : List (Int × Int × Int)} {Q : PV → PF → PF → Prop} (hd : 2 ≤ d) (hI : Lt WI 92) (hR : Lt WR 92) (k : Lt ((91, 2, 0) :: WI) 92 → Lt WR 92 → PW X d (MF.take 46) mX6_init (MF.take 28) 19 [(2, 91)] [] (wr ((91, 2, 0) :: WI)) (wr WR) (MF.take 28) Q) : PW X d (MF.take 46) mX6_init (MF.take 28) 14 [(2, 91)] [] (wr WI) (wr WR) (MF.take 28) Q := by
  refine P_aload_n (n := 0) (q := 15) rfl rfl (by decide +kernel) ?_
  refine P_iconst (n := 0) (q := 16) rfl (by decide +kernel) ?_
  refine T_putI wX6_18 (fun h => by cases h) (by decide +kernel) (q := 19) rfl (by decide +kernel) ?_
  exact k (Lt.one (hI.up (by decide)) (by decide)) (hR.up (by decide))
theorem G_Sb_19 {X : CX} {d : Nat} {WI WR : List (Int × Int × Int)} {Q : PV → PF → PF → Prop} (hd : 2 ≤ d) (hI : Lt WI 92) (hR : Lt WR 92) (k : Lt ((91, 3, 0) :: WI) 92 → Lt WR 92 → PW X d (MF.take 46) mX6_init (MF.take 28) 24 [(2, 91)] [] (wr ((91, 3, 0) :: WI)) (wr WR) (MF.take 28) Q) : PW X d (MF.take 46) mX6_init (MF.take 28) 19 [(2, 91)] [] (wr WI) (wr WR) (MF.take 28) Q := by
  refine P_aload_n (n := 0) (q := 20) rfl rfl (by decide +kernel) ?_
  refine P_iconst (n := 0) (q := 21) rfl (by decide +kernel) ?_
  refine T_putI wX6_21 (fun h => by cases h) (by decide +kernel) (q := 24) rfl (by decide +kernel) ?_
  exact k (Lt.one (hI.up (by decide)) (by decide)) (hR.up (by decide))
theorem G_Sb_24 {X : CX} {d : Nat} {WI WR : List (Int × Int × Int)} {Q : PV → PF → PF → Prop} (hd : 2 ≤ d) (hI : Lt WI 92) (hR : Lt WR 92) (k : Lt ((91, 4, 0) :: WI) 92 → Lt WR 92 → PW X d (MF.take 46) mX6_init (MF.take 28) 29 [(2, 91)] [] (wr ((91, 4, 0) :: WI)) (wr WR) (MF.take 28) Q) : PW X d (MF.take 46) mX6_init (MF.take 28) 24 [(2, 91)] [] (wr WI) (wr WR) (MF.take 28) Q := by
  refine P_aload_n (n := 0) (q := 25) rfl rfl (by decide +kernel) ?_
  refine P_iconst (n := 0) (q := 26) rfl (by decide +kernel) ?_
  refine T_putI wX6_24 (fun h => by cases h) (by decide +kernel) (q := 29) rfl (by decide +kernel) ?_
  exact k (Lt.one (hI.up (by decide)) (by decide)) (hR.up (by decide))
theorem G_Sb_29 {X : CX} {d : Nat} {WI WR : List (Int × Int × Int)} {Q : PV → PF → PF → Prop} (hd : 2 ≤ d) (hI : Lt WI 92) (hR : Lt WR 92) (k : Lt ((91, 5, 0) :: WI) 92 → Lt WR 92 → PW X d (MF.take 46) mX6_init (MF.take 28) 34 [(2, 91)] [] (wr ((91, 5, 0) :: WI)) (wr WR) (MF.take 28) Q) : PW X d (MF.take 46) mX6_init (MF.take 28) 29 [(2, 91)] [] (wr WI) (wr WR) (MF.take 28) Q := by
  refine P_aload_n (n := 0) (q := 30) rfl rfl (by decide +kernel) ?_
  refine P_iconst (n := 0) (q := 31) rfl (by decide +kernel) ?_
  refine T_putI wX6_27 (fun h => by cases h) (by decide +kernel) (q := 34) rfl (by decide +kernel) ?_
  exact k (Lt.one (hI.up (by decide)) (by decide)) (hR.up (by decide))
theorem G_Sb_34 {X : CX} {d : Nat} {WI WR : List (Int × Int × Int)} {Q : PV → PF → PF → Prop} (hd : 2 ≤ d) (hI : Lt WI 92) (hR : Lt WR 92) (k : Lt ((91, 6, 0) :: WI) 92 → Lt WR 92 → PW X d (MF.take 46) mX6_init (MF.take 28) 39 [(2, 91)] [] (wr ((91, 6, 0) :: WI)) (wr WR) (MF.take 28) Q) : PW X d (MF.take 46) mX6_init (MF.take 28) 34 [(2, 91)] [] (wr WI) (wr WR) (MF.take 28) Q := by
  refine P_aload_n (n := 0) (q := 35) rfl rfl (by decide +kernel) ?_
  refine P_iconst (n := 0) (q := 36) rfl (by decide +kernel) ?_
  refine T_putI wX6_30 (fun h => by cases h) (by decide +kernel) (q := 39) rfl (by decide +kernel) ?_
  exact k (Lt.one (hI.up (by decide)) (by decide)) (hR.up (by decide))
theorem G_Sb_39 {X : CX} {d : Nat} {WI WR : List (Int × Int × Int)} {Q : PV → PF → PF → Prop} (hd : 2 ≤ d) (hI : Lt WI 92) (hR : Lt WR 92) (k : Lt ((91, 7, 0) :: WI) 92 → Lt WR 92 → PW X d (MF.take 46) mX6_init (MF.take 28) 44 [(2, 91)] [] (wr ((91, 7, 0) :: WI)) (wr WR) (MF.take 28) Q) : PW X d (MF.take 46) mX6_init (MF.take 28) 39 [(2, 91)] [] (wr WI) (wr WR) (MF.take 28) Q := by
  refine P_aload_n (n := 0) (q := 40) rfl rfl (by decide +kernel) ?_
  refine P_iconst (n := 0) (q := 41) rfl (by decide +kernel) ?_
  refine T_putI wX6_33 (fun h => by cases h) (by decide +kernel) (q := 44) rfl (by decide +kernel) ?_
  exact k (Lt.one (hI.up (by decide)) (by decide)) (hR.up (by decide))
theorem G_Sb_44 {X : CX} {d : Nat} {WI WR : List (Int × Int × Int)} {Q : PV → PF → PF → Prop} (hd : 2 ≤ d) (hI : Lt WI 92) (hR : Lt WR 92) (k : Lt WI 93 → Lt ((91, 8, 92) :: WR) 93 → PW X d (MF.take 46) mX6_init (MF.take 28) 52 [(2, 91)] [] (wr WI) (wr ((91, 8, 92) :: WR)) (MF.take 29) Q) : PW X d (MF.take 46) mX6_init (MF.take 28) 44 [(2, 91)] [] (wr WI) (wr WR) (MF.take 28) Q := by
  refine P_aload_n (n := 0) (q := 45) rfl rfl (by decide +kernel) ?_
  refine P_bipush (n := 6) (q := 47) rfl rfl (by decide +kernel) ?_
  refine T_newi (N := 6) (c := 92) (n := 28) (q := 49) rfl (by decide) (by decide +kernel) (by decide) (by decide) (hI.up (by decide)) (hR.up (by decide)) rfl (by decide +kernel) ?_
  refine T_putR wX6_36 rfl (fun _ => rfl) (by decide +kernel) (q := 52) rfl (by decide +kernel) ?_
  exact k (hI.up (by decide)) (Lt.one (hR.up (by decide)) (by decide))
theorem G_Sb_52 {X : CX} {d : Nat} {WI WR : List (Int × Int × Int)} {Q : PV → PF → PF → Prop} (hd : 2 ≤ d) (hI : Lt WI 93) (hR : Lt WR 93) (k : Lt WI 94 → Lt ((91, 9, 93) :: WR) 94 → PW X d (MF.take 46) mX6_init (MF.take 28) 60 [(2, 91)] [] (wr WI) (wr ((91, 9, 93) :: WR)) (MF.take 30) Q) : PW X d (MF.take 46) mX6_init (MF.take 28) 52 [(2, 91)] [] (wr WI) (wr WR) (MF.take 29) Q := by
  refine P_aload_n (n := 0) (q := 53) rfl rfl (by decide +kernel) ?_
  refine P_bipush (n := 6) (q := 55) rfl rfl (by decide +kernel) ?_
  refine T_newi (N := 6) (c := 93) (n := 29) (q := 57) rfl (by decide) (by decide +kernel) (by decide) (by decide) (hI.up (by decide)) (hR.up (by decide)) rfl (by decide +kernel) ?_
  refine T_putR wX6_40 rfl (fun _ => rfl) (by decide +kernel) (q := 60) rfl (by decide +kernel) ?_
  exact k (hI.up (by decide)) (Lt.one (hR.up (by decide)) (by decide))
theorem G_Sb_60 {X : CX} {d : Nat} {WI WR : List (Int × Int × Int)} {Q : PV → PF → PF → Prop} (hd : 2 ≤ d) (hI : Lt WI 94) (hR : Lt WR 94) (k : Lt WI 95 → Lt ((91, 10, 94) :: WR) 95 → PW X d (MF.take 46) mX6_init (MF.take 28) 68 [(2, 91)] [] (wr WI) (wr ((91, 10, 94) :: WR)) (MF.take 31) Q) : PW X d (MF.take 46) mX6_init (MF.take 28) 60 [(2, 91)] [] (wr WI) (wr WR) (MF.take 30) Q := by
  refine P_aload_n (n := 0) (q := 61) rfl rfl (by decide +kernel) ?_
  refine P_bipush (n := 81) (q := 63) rfl rfl (by decide +kernel) ?_
  refine T_newi (N := 81) (c := 94) (n := 30) (q := 65) rfl (by decide) (by decide +kernel) (by decide) (by decide) (hI.up (by decide)) (hR.up (by decide)) rfl (by decide +kernel) ?_
  refine T_putR wX6_43 rfl (fun _ => rfl) (by decide +kernel) (q := 68) rfl (by decide +kernel) ?_
  exact k (hI.up (by decide)) (Lt.one (hR.up (by decide)) (by decide))
theorem G_Sb_68 {X : CX} {d : Nat} {WI WR : List (Int × Int × Int)} {Q : PV → PF → PF → Prop} (hd : 2 ≤ d) (hI : Lt WI 95) (hR : Lt WR 95) (k : Lt WI 96 → Lt ((91, 11, 95) :: WR) 96 → PW X d (MF.take 46) mX6_init (MF.take 28) 76 [(2, 91)] [] (wr WI) (wr ((91, 11, 95) :: WR)) (MF.take 32) Q) : PW X d (MF.take 46) mX6_init (MF.take 28) 68 [(2, 91)] [] (wr WI) (wr WR) (MF.take 31) Q := by
  refine P_aload_n (n := 0) (q := 69) rfl rfl (by decide +kernel) ?_
  refine P_bipush (n := 33) (q := 71) rfl rfl (by decide +kernel) ?_
  refine T_newi (N := 33) (c := 95) (n := 31) (q := 73) rfl (by decide) (by decide +kernel) (by decide) (by decide) (hI.up (by decide)) (hR.up (by decide)) rfl (by decide +kernel) ?_
  refine T_putR wX6_46 rfl (fun _ => rfl) (by decide +kernel) (q := 76) rfl (by decide +kernel) ?_
  exact k (hI.up (by decide)) (Lt.one (hR.up (by decide)) (by decide))
theorem n_Formula_96 {X : CX} {WI WR : List (Int × Int × Int)} (hI : Lt WI 97) (hR : Lt WR 97) : Callee X 1 mX2_init (MF.take 33) (MF.take 35) [(2, 96)] (wr WI) (wr WR) (fun _ I' R' => I' = wr ((96, 2, 0) :: WI) ∧ R' = wr ((96, 1, 98) :: ((96, 0, 97) :: WR))) := by
  have e : ((MF.take 33).length : Int) = 33 := by decide +kernel
  have h := i_Formula (X := X) (M := MF.take 33) (WI := WI) (WR := WR) (o := 96) (by decide +kernel) (by rw [e]; exact hI.out) (by rw [e]; exact hR.out) (by rw [e]; decide)
  rw [e, show MF.take 33 ++ [(12, 1600)] ++ [(12, 64)] = MF.take 35 by decide +kernel] at h
  exact h
theorem G_Sb_76 {X : CX} {d : Nat} {WI WR : List (Int × Int × Int)} {Q : PV → PF → PF → Prop} (hd : 2 ≤ d) (hI : Lt WI 96) (hR : Lt WR 96) (k : Lt ((96, 2, 0) :: WI) 99 → Lt ((91, 12, 96) :: ((96, 1, 98) :: ((96, 0, 97) :: WR))) 99 → PW X d (MF.take 46) mX6_init (MF.take 28) 87 [(2, 91)] [] (wr ((96, 2, 0) :: WI)) (wr ((91, 12, 96) :: ((96, 1, 98) :: ((96, 0, 97) :: WR)))) (MF.take 35) Q) : PW X d (MF.take 46) mX6_init (MF.take 28) 76 [(2, 91)] [] (wr WI) (wr WR) (MF.take 32) Q := by
  refine P_aload_n (n := 0) (q := 77) rfl rfl (by decide +kernel) ?_
  refine T_new (ci := 2) (N := 3) (c := 96) (n := 32) (q := 80) cOK2 (by decide +kernel) (tGp1 113 rfl rfl) (tGp1 73 rfl rfl) (tGp1 5 rfl rfl) (by decide +kernel) (by decide) (by decide) (hI.up (by decide)) (hR.up (by decide)) rfl (by decide +kernel) ?_
  refine P_dup (Nat.ne_of_beq_eq_false rfl) (q := 81) rfl (by decide +kernel) ?_
  refine T_ctor (ci := 2) (n' := 35) (d' := 1) (As := []) (q := 84) oX2_init rfl (by decide +kernel) (by decide) (Or.inr kX6_51) (by omega) (by decide) (by decide) (by decide) (n_Formula_96 (hI.up (by decide)) (hR.up (by decide))) rfl (by decide +kernel) ?_
  refine T_putR wX6_52 rfl (fun _ => rfl) (by decide +kernel) (q := 87) rfl (by decide +kernel) ?_
  exact k (Lt.one (hI.up (by decide)) (by decide)) (Lt.one (Lt.one (Lt.one (hR.up (by decide)) (by decide)) (by decide)) (by decide))
theorem n_Formula_99 {X : CX} {WI WR : List (Int × Int × Int)} (hI : Lt WI 100) (hR : Lt WR 100) : Callee X 1 mX2_init (MF.take 36) (MF.take 38) [(2, 99)] (wr WI) (wr WR) (fun _ I' R' => I' = wr ((99, 2, 0) :: WI) ∧ R' = wr ((99, 1, 101) :: ((99, 0, 100) :: WR))) := by
  have e : ((MF.take 36).length : Int) = 36 := by decide +kernel
  have h := i_Formula (X := X) (M := MF.take 36) (WI := WI) (WR := WR) (o := 99) (by decide +kernel) (by rw [e]; exact hI.out) (by rw [e]; exact hR.out) (by rw [e]; decide)
  rw [e, show MF.take 36 ++ [(12, 1600)] ++ [(12, 64)] = MF.take 38 by decide +kernel] at h
  exact h
theorem G_Sb_87 {X : CX} {d : Nat} {WI WR : List (Int × Int × Int)} {Q : PV → PF → PF → Prop} (hd : 2 ≤ d) (hI : Lt WI 99) (hR : Lt WR 99) (k : Lt ((99, 2, 0) :: WI) 102 → Lt ((91, 13, 99) :: ((99, 1, 101) :: ((99, 0, 100) :: WR))) 102 → PW X d (MF.take 46) mX6_init (MF.take 28) 98 [(2, 91)] [] (wr ((99, 2, 0) :: WI)) (wr ((91, 13, 99) :: ((99, 1, 101) :: ((99, 0, 100) :: WR)))) (MF.take 38) Q) : PW X d (MF.take 46) mX6_init (MF.take 28) 87 [(2, 91)] [] (wr WI) (wr WR) (MF.take 35) Q := by
  refine P_aload_n (n := 0) (q := 88) rfl rfl (by decide +kernel) ?_
  refine T_new (ci := 2) (N := 3) (c := 99) (n := 35) (q := 91) cOK2 (by decide +kernel) (tGp1 113 rfl rfl) (tGp1 73 rfl rfl) (tGp1 5 rfl rfl) (by decide +kernel) (by decide) (by decide) (hI.up (by decide)) (hR.up (by decide)) rfl (by decide +kernel) ?_
  refine P_dup (Nat.ne_of_beq_eq_false rfl) (q := 92) rfl (by decide +kernel) ?_
  refine T_ctor (ci := 2) (n' := 38) (d' := 1) (As := []) (q := 95) oX2_init rfl (by decide +kernel) (by decide) (Or.inr kX6_51) (by omega) (by decide) (by decide) (by decide) (n_Formula_99 (hI.up (by decide)) (hR.up (by decide))) rfl (by decide +kernel) ?_
  refine T_putR wX6_56 rfl (fun _ => rfl) (by decide +kernel) (q := 98) rfl (by decide +kernel) ?_
  exact k (Lt.one (hI.up (by decide)) (by decide)) (Lt.one (Lt.one (Lt.one (hR.up (by decide)) (by decide)) (by decide)) (by decide))
theorem n_State_102 {X : CX} {WI WR : List (Int × Int × Int)} (hI : Lt WI 103) (hR : Lt WR 103) : Callee X 1 mX8_init (MF.take 39) (MF.take 46) [(2, 102)] (wr WI) (wr WR) (fun _ I' R' => I' = wr ((102, 3, 0) :: ((102, 2, 0) :: ((102, 1, (-1)) :: ((102, 0, 0) :: WI)))) ∧ R' = wr ((102, 4, 103) :: (rws 103 6 ++ WR))) := by
  have e : ((MF.take 39).length : Int) = 39 := by decide +kernel
  have h := i_State (X := X) (M := MF.take 39) (WI := WI) (WR := WR) (o := 102) (by decide +kernel) (by decide +kernel) (by rw [e]; exact hI.out) (by rw [e]; exact hR.out) (by rw [e]; decide)
  rw [e, show MF.take 39 ++ (15, 6) :: List.replicate 6 (12, 8) = MF.take 46 by decide +kernel] at h
  exact h
theorem G_Sb_98 {X : CX} {d : Nat} {WI WR : List (Int × Int × Int)} {Q : PV → PF → PF → Prop} (hd : 2 ≤ d) (hI : Lt WI 102) (hR : Lt WR 102) (k : Lt ((102, 3, 0) :: ((102, 2, 0) :: ((102, 1, (-1)) :: ((102, 0, 0) :: WI)))) 110 → Lt ((91, 14, 102) :: ((102, 4, 103) :: (rws 103 6 ++ WR))) 110 → PW X d (MF.take 46) mX6_init (MF.take 28) 109 [(2, 91)] [] (wr ((102, 3, 0) :: ((102, 2, 0) :: ((102, 1, (-1)) :: ((102, 0, 0) :: WI))))) (wr ((91, 14, 102) :: ((102, 4, 103) :: (rws 103 6 ++ WR)))) (MF.take 46) Q) : PW X d (MF.take 46) mX6_init (MF.take 28) 98 [(2, 91)] [] (wr WI) (wr WR) (MF.take 38) Q := by
  refine P_aload_n (n := 0) (q := 99) rfl rfl (by decide +kernel) ?_
  refine T_new (ci := 8) (N := 5) (c := 102) (n := 38) (q := 102) cOK8 (by decide +kernel) (tGp1 115 rfl rfl) (tGp1 116 rfl rfl) (tGp1 8 rfl rfl) (by decide +kernel) (by decide) (by decide) (hI.up (by decide)) (hR.up (by decide)) rfl (by decide +kernel) ?_
  refine P_dup (Nat.ne_of_beq_eq_false rfl) (q := 103) rfl (by decide +kernel) ?_
  refine T_ctor (ci := 8) (n' := 46) (d' := 1) (As := []) (q := 106) oX8_init rfl (by decide +kernel) (by decide) (Or.inr kX6_61) (by omega) (by decide) (by decide) (by decide) (n_State_102 (hI.up (by decide)) (hR.up (by decide))) rfl (by decide +kernel) ?_
  refine T_putR wX6_62 rfl (fun _ => rfl) (by decide +kernel) (q := 109) rfl (by decide +kernel) ?_
  exact k (Lt.one (Lt.one (Lt.one (Lt.one (hI.up (by decide)) (by decide)) (by decide)) (by decide)) (by decide)) (Lt.one (Lt.one (Lt_rws (hR.up (by decide)) (by decide)) (by decide)) (by decide))
def n_Square_91_I (W : List (Int × Int × Int)) : List (Int × Int × Int) := ((102, 3, 0) :: ((102, 2, 0) :: ((102, 1, (-1)) :: ((102, 0, 0) :: ((99, 2, 0) :: ((96, 2, 0) :: ((91, 7, 0) :: ((91, 6, 0) :: ((91, 5, 0) :: ((91, 4, 0) :: ((91, 3, 0) :: ((91, 2, 0) :: ((91, 1, 0) :: ((91, 0, 0) :: W))))))))))))))
def n_Square_91_R (W : List (Int × Int × Int)) : List (Int × Int × Int) := ((91, 14, 102) :: ((102, 4, 103) :: (rws 103 6 ++ ((91, 13, 99) :: ((99, 1, 101) :: ((99, 0, 100) :: ((91, 12, 96) :: ((96, 1, 98) :: ((96, 0, 97) :: ((91, 11, 95) :: ((91, 10, 94) :: ((91, 9, 93) :: ((91, 8, 92) :: W)))))))))))))
theorem n_Square_91 {X : CX} {WI WR : List (Int × Int × Int)} (hI : Lt WI 92) (hR : Lt WR 92) : Callee X 2 mX6_init (MF.take 28) (MF.take 46) [(2, 91)] (wr WI) (wr WR) (fun _ I' R' => I' = wr (n_Square_91_I WI) ∧ R' = wr (n_Square_91_R WR)) := by
  refine callee_b (by decide +kernel) (Nat.le_of_ble_eq_true rfl) rfl ?_
  refine G_Sb_0 (Nat.le_refl _) hI hR ?_
  clear hI hR
  intro hI hR
  refine G_Sb_9 (Nat.le_refl _) hI hR ?_
  clear hI hR
  intro hI hR
  refine G_Sb_14 (Nat.le_refl _) hI hR ?_
  clear hI hR
  intro hI hR
  refine G_Sb_19 (Nat.le_refl _) hI hR ?_
  clear hI hR
  intro hI hR
  refine G_Sb_24 (Nat.le_refl _) hI hR ?_
  clear hI hR
  intro hI hR
  refine G_Sb_29 (Nat.le_refl _) hI hR ?_
  clear hI hR
  intro hI hR
  refine G_Sb_34 (Nat.le_refl _) hI hR ?_
  clear hI hR
  intro hI hR
  refine G_Sb_39 (Nat.le_refl _) hI hR ?_
  clear hI hR
  intro hI hR
  refine G_Sb_44 (Nat.le_refl _) hI hR ?_
  clear hI hR
  intro hI hR
  refine G_Sb_52 (Nat.le_refl _) hI hR ?_
  clear hI hR
  intro hI hR
  refine G_Sb_60 (Nat.le_refl _) hI hR ?_
  clear hI hR
  intro hI hR
  refine G_Sb_68 (Nat.le_refl _) hI hR ?_
  clear hI hR
  intro hI hR
  refine G_Sb_76 (Nat.le_refl _) hI hR ?_
  clear hI hR
  intro hI hR
  refine G_Sb_87 (Nat.le_refl _) hI hR ?_
  clear hI hR
  intro hI hR
  refine G_Sb_98 (Nat.le_refl _) hI hR ?_
  clear hI hR
  intro hI hR
  exact P_vret rfl (by decide +kernel) ⟨rfl, rfl⟩
