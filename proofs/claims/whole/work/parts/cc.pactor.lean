/-! ===== the past made ===== -/
theorem wX4_11 : FW RX4 11 4 0 (.array (.array .int)) true := ⟨_, _, _, cOK4, by decide, rfl, rfl, Or.inl ⟨tGp2 71 rfl rfl, fun _ => rfl⟩⟩
theorem wX4_22 : FW RX4 22 4 2 (.array (.object "NoonHat$State")) true := ⟨_, _, _, cOK4, by decide, rfl, rfl, Or.inl ⟨tGp2 73 rfl rfl, fun _ => rfl⟩⟩
theorem wX4_26 : FW RX4 26 4 3 (.array .int) true := ⟨_, _, _, cOK4, by decide, rfl, rfl, Or.inl ⟨tGp2 74 rfl rfl, fun _ => rfl⟩⟩
theorem G_Pa_0 {X : CX} {d : Nat} {WI WR : List (Int × Int × Int)} {Q : PV → PF → PF → Prop} (hd : 2 ≤ d) (hI : Lt WI 137) (hR : Lt WR 137) (k : Lt WI 141 → Lt ((136, 0, 137) :: (rws 137 3 ++ WR)) 141 → PW X d (MF.take 239) mX4_init (MF.take 73) 16 [(2, 136)] [] (wr WI) (wr ((136, 0, 137) :: (rws 137 3 ++ WR))) (MF.take 77) Q) : PW X d (MF.take 239) mX4_init (MF.take 73) 0 [(2, 136)] [] (wr WI) (wr WR) (MF.take 73) Q := by
  refine P_aload_n (n := 0) (q := 1) rfl rfl (by decide +kernel) ?_
  refine P_objInit (ci := 4) (q := 4) (by decide +kernel) (by decide) (tGp2 66 rfl rfl) (tGp1 24 rfl rfl) (tGp1 25 rfl rfl) (by omega) (by decide) rfl (by decide +kernel) ?_
  refine P_aload_n (n := 0) (q := 5) rfl rfl (by decide +kernel) ?_
  refine P_iconst (n := 3) (q := 6) rfl (by decide +kernel) ?_
  refine P_sipush (n := 999) (q := 9) rfl rfl (by decide +kernel) ?_
  refine T_mna (N := 3) (K := 999) (c := 137) (n := 73) (n' := 77) (q := 13) rfl rfl (by decide) (by decide) (tGp2 67 rfl rfl) (by decide +kernel) (by decide) (by decide) (by decide) (hI.up (by decide)) (hR.up (by decide)) rfl (by decide +kernel) ?_
  refine T_putR wX4_11 rfl (fun _ => rfl) (by decide +kernel) (q := 16) rfl (by decide +kernel) ?_
  exact k (hI.up (by decide)) (Lt.one (Lt_rws (hR.up (by decide)) (by decide)) (by decide))
theorem G_Pa_16 {X : CX} {d : Nat} {WI WR : List (Int × Int × Int)} {Q : PV → PF → PF → Prop} (hd : 2 ≤ d) (hI : Lt WI 141) (hR : Lt WR 141) (k : Lt ((136, 1, 0) :: WI) 141 → Lt WR 141 → PW X d (MF.take 239) mX4_init (MF.take 73) 21 [(2, 136)] [] (wr ((136, 1, 0) :: WI)) (wr WR) (MF.take 77) Q) : PW X d (MF.take 239) mX4_init (MF.take 73) 16 [(2, 136)] [] (wr WI) (wr WR) (MF.take 77) Q := by
  refine P_aload_n (n := 0) (q := 17) rfl rfl (by decide +kernel) ?_
  refine P_iconst (n := 0) (q := 18) rfl (by decide +kernel) ?_
  refine T_putI wX4_16 (fun h => by cases h) (by decide +kernel) (q := 21) rfl (by decide +kernel) ?_
  exact k (Lt.one (hI.up (by decide)) (by decide)) (hR.up (by decide))
theorem G_Pa_21 {X : CX} {d : Nat} {WI WR : List (Int × Int × Int)} {Q : PV → PF → PF → Prop} (hd : 2 ≤ d) (hI : Lt WI 141) (hR : Lt WR 141) (k : Lt WI 142 → Lt ((136, 2, 141) :: WR) 142 → PW X d (MF.take 239) mX4_init (MF.take 73) 30 [(2, 136)] [] (wr WI) (wr ((136, 2, 141) :: WR)) (MF.take 78) Q) : PW X d (MF.take 239) mX4_init (MF.take 73) 21 [(2, 136)] [] (wr WI) (wr WR) (MF.take 77) Q := by
  refine P_aload_n (n := 0) (q := 22) rfl rfl (by decide +kernel) ?_
  refine P_bipush (n := 20) (q := 24) rfl rfl (by decide +kernel) ?_
  refine T_anew (N := 20) (c := 141) (n := 77) (q := 27) rfl (by decide) (tGp2 68 rfl rfl) (by decide +kernel) (by decide) (by decide) (hI.up (by decide)) (hR.up (by decide)) rfl (by decide +kernel) ?_
  refine T_putR wX4_22 rfl (fun _ => rfl) (by decide +kernel) (q := 30) rfl (by decide +kernel) ?_
  exact k (hI.up (by decide)) (Lt.one (hR.up (by decide)) (by decide))
theorem G_Pa_30 {X : CX} {d : Nat} {WI WR : List (Int × Int × Int)} {Q : PV → PF → PF → Prop} (hd : 2 ≤ d) (hI : Lt WI 142) (hR : Lt WR 142) (k : Lt WI 143 → Lt ((136, 3, 142) :: WR) 143 → PW X d (MF.take 239) mX4_init (MF.take 73) 38 [(2, 136)] [] (wr WI) (wr ((136, 3, 142) :: WR)) (MF.take 79) Q) : PW X d (MF.take 239) mX4_init (MF.take 73) 30 [(2, 136)] [] (wr WI) (wr WR) (MF.take 78) Q := by
  refine P_aload_n (n := 0) (q := 31) rfl rfl (by decide +kernel) ?_
  refine P_bipush (n := 20) (q := 33) rfl rfl (by decide +kernel) ?_
  refine T_newi (N := 20) (c := 142) (n := 78) (q := 35) rfl (by decide) (by decide +kernel) (by decide) (by decide) (hI.up (by decide)) (hR.up (by decide)) rfl (by decide +kernel) ?_
  refine T_putR wX4_26 rfl (fun _ => rfl) (by decide +kernel) (q := 38) rfl (by decide +kernel) ?_
  exact k (hI.up (by decide)) (Lt.one (hR.up (by decide)) (by decide))
theorem G_Pa_38 {X : CX} {d : Nat} {WI WR : List (Int × Int × Int)} {Q : PV → PF → PF → Prop} (hd : 2 ≤ d) (hI : Lt WI 143) (hR : Lt WR 143) (k : Lt ((136, 4, 0) :: WI) 143 → Lt WR 143 → PW X d (MF.take 239) mX4_init (MF.take 73) 43 [(2, 136)] [] (wr ((136, 4, 0) :: WI)) (wr WR) (MF.take 79) Q) : PW X d (MF.take 239) mX4_init (MF.take 73) 38 [(2, 136)] [] (wr WI) (wr WR) (MF.take 79) Q := by
  refine P_aload_n (n := 0) (q := 39) rfl rfl (by decide +kernel) ?_
  refine P_iconst (n := 0) (q := 40) rfl (by decide +kernel) ?_
  refine T_putI wX4_30 (fun h => by cases h) (by decide +kernel) (q := 43) rfl (by decide +kernel) ?_
  exact k (Lt.one (hI.up (by decide)) (by decide)) (hR.up (by decide))
theorem G_Pa_43 {X : CX} {d : Nat} {WI WR : List (Int × Int × Int)} {Q : PV → PF → PF → Prop} (hd : 2 ≤ d) (hI : Lt WI 143) (hR : Lt WR 143) (k : Lt ((136, 5, 0) :: WI) 143 → Lt WR 143 → PW X d (MF.take 239) mX4_init (MF.take 73) 50 [(2, 136), (0, 0)] [] (wr ((136, 5, 0) :: WI)) (wr WR) (MF.take 79) Q) : PW X d (MF.take 239) mX4_init (MF.take 73) 43 [(2, 136)] [] (wr WI) (wr WR) (MF.take 79) Q := by
  refine P_aload_n (n := 0) (q := 44) rfl rfl (by decide +kernel) ?_
  refine P_iconst (n := 0) (q := 45) rfl (by decide +kernel) ?_
  refine T_putI wX4_33 (fun h => by cases h) (by decide +kernel) (q := 48) rfl (by decide +kernel) ?_
  refine P_iconst (n := 0) (q := 49) rfl (by decide +kernel) ?_
  refine P_istore_n (n := 1) (by decide) (q := 50) rfl (by decide +kernel) ?_
  exact k (Lt.one (hI.up (by decide)) (by decide)) (hR.up (by decide))
theorem n_State_143 {X : CX} {WI WR : List (Int × Int × Int)} (hI : Lt WI 144) (hR : Lt WR 144) : Callee X 1 mX8_init (MF.take 80) (MF.take 87) [(2, 143)] (wr WI) (wr WR) (fun _ I' R' => I' = wr ((143, 3, 0) :: ((143, 2, 0) :: ((143, 1, (-1)) :: ((143, 0, 0) :: WI)))) ∧ R' = wr ((143, 4, 144) :: (rws 144 6 ++ WR))) := by
  have e : ((MF.take 80).length : Int) = 80 := by decide +kernel
  have h := i_State (X := X) (M := MF.take 80) (WI := WI) (WR := WR) (o := 143) (by decide +kernel) (by decide +kernel) (by rw [e]; exact hI.out) (by rw [e]; exact hR.out) (by rw [e]; decide)
  rw [e, show MF.take 80 ++ (15, 6) :: List.replicate 6 (12, 8) = MF.take 87 by decide +kernel] at h
  exact h
theorem G_Pa_50 {X : CX} {d : Nat} {WI WR : List (Int × Int × Int)} {Q : PV → PF → PF → Prop} (hd : 2 ≤ d) (hI : Lt WI 143) (hR : Lt WR 143) (h1 : wr WR 136 2 = 141) (k : Lt ((143, 3, 0) :: ((143, 2, 0) :: ((143, 1, (-1)) :: ((143, 0, 0) :: WI)))) 151 → Lt ((141, 0, 143) :: ((143, 4, 144) :: (rws 144 6 ++ WR))) 151 → wr ((141, 0, 143) :: ((143, 4, 144) :: (rws 144 6 ++ WR))) 136 2 = 141 → PW X d (MF.take 239) mX4_init (MF.take 73) 50 [(2, 136), (0, 1)] [] (wr ((143, 3, 0) :: ((143, 2, 0) :: ((143, 1, (-1)) :: ((143, 0, 0) :: WI))))) (wr ((141, 0, 143) :: ((143, 4, 144) :: (rws 144 6 ++ WR)))) (MF.take 87) Q) : PW X d (MF.take 239) mX4_init (MF.take 73) 50 [(2, 136), (0, 0)] [] (wr WI) (wr WR) (MF.take 79) Q := by
  refine P_iload_n (n := 1) (q := 51) rfl rfl (by decide +kernel) ?_
  refine P_bipush (n := 20) (q := 53) rfl rfl (by decide +kernel) ?_
  refine P_icmp_ge (off := (22)) (t := 75) (q := 56) (by decide) rfl (by decide +kernel) (fun h => absurd h (by decide)) (fun _ => ?_)
  refine P_aload_n (n := 0) (q := 57) rfl rfl (by decide +kernel) ?_
  refine B_getfR fX4_22 (by decide +kernel) h1 (q := 60) rfl (by decide +kernel) ?_
  refine P_iload_n (n := 1) (q := 61) rfl rfl (by decide +kernel) ?_
  refine T_new (ci := 8) (N := 5) (c := 143) (n := 79) (q := 64) cOK8 (by decide +kernel) (tGp2 68 rfl rfl) (tGp1 116 rfl rfl) (tGp1 8 rfl rfl) (by decide +kernel) (by decide) (by decide) (hI.up (by decide)) (hR.up (by decide)) rfl (by decide +kernel) ?_
  refine P_dup (Nat.ne_of_beq_eq_false rfl) (q := 65) rfl (by decide +kernel) ?_
  refine T_ctor (ci := 8) (n' := 87) (d' := 1) (As := []) (q := 68) oX8_init rfl (by decide +kernel) (by decide) (Or.inr kX4_36) (by omega) (by decide) (by decide) (by decide) (n_State_143 (hI.up (by decide)) (hR.up (by decide))) rfl (by decide +kernel) ?_
  refine T_aast (by decide +kernel) (by decide +kernel) (by decide) (by decide +kernel) (q := 69) rfl (by decide +kernel) ?_
  refine P_iinc (n := 1) (a := 1) (x := 0) (by decide) rfl (q := 72) rfl (by decide +kernel) ?_
  refine P_goto (off := (-22)) (t := 50) (by decide) (by decide +kernel) ?_
  exact k (Lt.one (Lt.one (Lt.one (Lt.one (hI.up (by decide)) (by decide)) (by decide)) (by decide)) (by decide)) (Lt.one (Lt.one (Lt_rws (hR.up (by decide)) (by decide)) (by decide)) (by decide)) ((wr_o (by decide)).trans ((wr_o (by decide)).trans ((wr_r (by decide)).trans h1)))
theorem n_State_151 {X : CX} {WI WR : List (Int × Int × Int)} (hI : Lt WI 152) (hR : Lt WR 152) : Callee X 1 mX8_init (MF.take 88) (MF.take 95) [(2, 151)] (wr WI) (wr WR) (fun _ I' R' => I' = wr ((151, 3, 0) :: ((151, 2, 0) :: ((151, 1, (-1)) :: ((151, 0, 0) :: WI)))) ∧ R' = wr ((151, 4, 152) :: (rws 152 6 ++ WR))) := by
  have e : ((MF.take 88).length : Int) = 88 := by decide +kernel
  have h := i_State (X := X) (M := MF.take 88) (WI := WI) (WR := WR) (o := 151) (by decide +kernel) (by decide +kernel) (by rw [e]; exact hI.out) (by rw [e]; exact hR.out) (by rw [e]; decide)
  rw [e, show MF.take 88 ++ (15, 6) :: List.replicate 6 (12, 8) = MF.take 95 by decide +kernel] at h
  exact h
theorem G_Pa_50_1 {X : CX} {d : Nat} {WI WR : List (Int × Int × Int)} {Q : PV → PF → PF → Prop} (hd : 2 ≤ d) (hI : Lt WI 151) (hR : Lt WR 151) (h1 : wr WR 136 2 = 141) (k : Lt ((151, 3, 0) :: ((151, 2, 0) :: ((151, 1, (-1)) :: ((151, 0, 0) :: WI)))) 159 → Lt ((141, 1, 151) :: ((151, 4, 152) :: (rws 152 6 ++ WR))) 159 → wr ((141, 1, 151) :: ((151, 4, 152) :: (rws 152 6 ++ WR))) 136 2 = 141 → PW X d (MF.take 239) mX4_init (MF.take 73) 50 [(2, 136), (0, 2)] [] (wr ((151, 3, 0) :: ((151, 2, 0) :: ((151, 1, (-1)) :: ((151, 0, 0) :: WI))))) (wr ((141, 1, 151) :: ((151, 4, 152) :: (rws 152 6 ++ WR)))) (MF.take 95) Q) : PW X d (MF.take 239) mX4_init (MF.take 73) 50 [(2, 136), (0, 1)] [] (wr WI) (wr WR) (MF.take 87) Q := by
  refine P_iload_n (n := 1) (q := 51) rfl rfl (by decide +kernel) ?_
  refine P_bipush (n := 20) (q := 53) rfl rfl (by decide +kernel) ?_
  refine P_icmp_ge (off := (22)) (t := 75) (q := 56) (by decide) rfl (by decide +kernel) (fun h => absurd h (by decide)) (fun _ => ?_)
  refine P_aload_n (n := 0) (q := 57) rfl rfl (by decide +kernel) ?_
  refine B_getfR fX4_22 (by decide +kernel) h1 (q := 60) rfl (by decide +kernel) ?_
  refine P_iload_n (n := 1) (q := 61) rfl rfl (by decide +kernel) ?_
  refine T_new (ci := 8) (N := 5) (c := 151) (n := 87) (q := 64) cOK8 (by decide +kernel) (tGp2 68 rfl rfl) (tGp1 116 rfl rfl) (tGp1 8 rfl rfl) (by decide +kernel) (by decide) (by decide) (hI.up (by decide)) (hR.up (by decide)) rfl (by decide +kernel) ?_
  refine P_dup (Nat.ne_of_beq_eq_false rfl) (q := 65) rfl (by decide +kernel) ?_
  refine T_ctor (ci := 8) (n' := 95) (d' := 1) (As := []) (q := 68) oX8_init rfl (by decide +kernel) (by decide) (Or.inr kX4_36) (by omega) (by decide) (by decide) (by decide) (n_State_151 (hI.up (by decide)) (hR.up (by decide))) rfl (by decide +kernel) ?_
  refine T_aast (by decide +kernel) (by decide +kernel) (by decide) (by decide +kernel) (q := 69) rfl (by decide +kernel) ?_
  refine P_iinc (n := 1) (a := 1) (x := 1) (by decide) rfl (q := 72) rfl (by decide +kernel) ?_
  refine P_goto (off := (-22)) (t := 50) (by decide) (by decide +kernel) ?_
  exact k (Lt.one (Lt.one (Lt.one (Lt.one (hI.up (by decide)) (by decide)) (by decide)) (by decide)) (by decide)) (Lt.one (Lt.one (Lt_rws (hR.up (by decide)) (by decide)) (by decide)) (by decide)) ((wr_o (by decide)).trans ((wr_o (by decide)).trans ((wr_r (by decide)).trans h1)))
theorem n_State_159 {X : CX} {WI WR : List (Int × Int × Int)} (hI : Lt WI 160) (hR : Lt WR 160) : Callee X 1 mX8_init (MF.take 96) (MF.take 103) [(2, 159)] (wr WI) (wr WR) (fun _ I' R' => I' = wr ((159, 3, 0) :: ((159, 2, 0) :: ((159, 1, (-1)) :: ((159, 0, 0) :: WI)))) ∧ R' = wr ((159, 4, 160) :: (rws 160 6 ++ WR))) := by
  have e : ((MF.take 96).length : Int) = 96 := by decide +kernel
  have h := i_State (X := X) (M := MF.take 96) (WI := WI) (WR := WR) (o := 159) (by decide +kernel) (by decide +kernel) (by rw [e]; exact hI.out) (by rw [e]; exact hR.out) (by rw [e]; decide)
  rw [e, show MF.take 96 ++ (15, 6) :: List.replicate 6 (12, 8) = MF.take 103 by decide +kernel] at h
  exact h
theorem G_Pa_50_2 {X : CX} {d : Nat} {WI WR : List (Int × Int × Int)} {Q : PV → PF → PF → Prop} (hd : 2 ≤ d) (hI : Lt WI 159) (hR : Lt WR 159) (h1 : wr WR 136 2 = 141) (k : Lt ((159, 3, 0) :: ((159, 2, 0) :: ((159, 1, (-1)) :: ((159, 0, 0) :: WI)))) 167 → Lt ((141, 2, 159) :: ((159, 4, 160) :: (rws 160 6 ++ WR))) 167 → wr ((141, 2, 159) :: ((159, 4, 160) :: (rws 160 6 ++ WR))) 136 2 = 141 → PW X d (MF.take 239) mX4_init (MF.take 73) 50 [(2, 136), (0, 3)] [] (wr ((159, 3, 0) :: ((159, 2, 0) :: ((159, 1, (-1)) :: ((159, 0, 0) :: WI))))) (wr ((141, 2, 159) :: ((159, 4, 160) :: (rws 160 6 ++ WR)))) (MF.take 103) Q) : PW X d (MF.take 239) mX4_init (MF.take 73) 50 [(2, 136), (0, 2)] [] (wr WI) (wr WR) (MF.take 95) Q := by
  refine P_iload_n (n := 1) (q := 51) rfl rfl (by decide +kernel) ?_
  refine P_bipush (n := 20) (q := 53) rfl rfl (by decide +kernel) ?_
  refine P_icmp_ge (off := (22)) (t := 75) (q := 56) (by decide) rfl (by decide +kernel) (fun h => absurd h (by decide)) (fun _ => ?_)
  refine P_aload_n (n := 0) (q := 57) rfl rfl (by decide +kernel) ?_
  refine B_getfR fX4_22 (by decide +kernel) h1 (q := 60) rfl (by decide +kernel) ?_
  refine P_iload_n (n := 1) (q := 61) rfl rfl (by decide +kernel) ?_
  refine T_new (ci := 8) (N := 5) (c := 159) (n := 95) (q := 64) cOK8 (by decide +kernel) (tGp2 68 rfl rfl) (tGp1 116 rfl rfl) (tGp1 8 rfl rfl) (by decide +kernel) (by decide) (by decide) (hI.up (by decide)) (hR.up (by decide)) rfl (by decide +kernel) ?_
  refine P_dup (Nat.ne_of_beq_eq_false rfl) (q := 65) rfl (by decide +kernel) ?_
  refine T_ctor (ci := 8) (n' := 103) (d' := 1) (As := []) (q := 68) oX8_init rfl (by decide +kernel) (by decide) (Or.inr kX4_36) (by omega) (by decide) (by decide) (by decide) (n_State_159 (hI.up (by decide)) (hR.up (by decide))) rfl (by decide +kernel) ?_
  refine T_aast (by decide +kernel) (by decide +kernel) (by decide) (by decide +kernel) (q := 69) rfl (by decide +kernel) ?_
  refine P_iinc (n := 1) (a := 1) (x := 2) (by decide) rfl (q := 72) rfl (by decide +kernel) ?_
  refine P_goto (off := (-22)) (t := 50) (by decide) (by decide +kernel) ?_
  exact k (Lt.one (Lt.one (Lt.one (Lt.one (hI.up (by decide)) (by decide)) (by decide)) (by decide)) (by decide)) (Lt.one (Lt.one (Lt_rws (hR.up (by decide)) (by decide)) (by decide)) (by decide)) ((wr_o (by decide)).trans ((wr_o (by decide)).trans ((wr_r (by decide)).trans h1)))
theorem n_State_167 {X : CX} {WI WR : List (Int × Int × Int)} (hI : Lt WI 168) (hR : Lt WR 168) : Callee X 1 mX8_init (MF.take 104) (MF.take 111) [(2, 167)] (wr WI) (wr WR) (fun _ I' R' => I' = wr ((167, 3, 0) :: ((167, 2, 0) :: ((167, 1, (-1)) :: ((167, 0, 0) :: WI)))) ∧ R' = wr ((167, 4, 168) :: (rws 168 6 ++ WR))) := by
  have e : ((MF.take 104).length : Int) = 104 := by decide +kernel
  have h := i_State (X := X) (M := MF.take 104) (WI := WI) (WR := WR) (o := 167) (by decide +kernel) (by decide +kernel) (by rw [e]; exact hI.out) (by rw [e]; exact hR.out) (by rw [e]; decide)
  rw [e, show MF.take 104 ++ (15, 6) :: List.replicate 6 (12, 8) = MF.take 111 by decide +kernel] at h
  exact h
theorem G_Pa_50_3 {X : CX} {d : Nat} {WI WR : List (Int × Int × Int)} {Q : PV → PF → PF → Prop} (hd : 2 ≤ d) (hI : Lt WI 167) (hR : Lt WR 167) (h1 : wr WR 136 2 = 141) (k : Lt ((167, 3, 0) :: ((167, 2, 0) :: ((167, 1, (-1)) :: ((167, 0, 0) :: WI)))) 175 → Lt ((141, 3, 167) :: ((167, 4, 168) :: (rws 168 6 ++ WR))) 175 → wr ((141, 3, 167) :: ((167, 4, 168) :: (rws 168 6 ++ WR))) 136 2 = 141 → PW X d (MF.take 239) mX4_init (MF.take 73) 50 [(2, 136), (0, 4)] [] (wr ((167, 3, 0) :: ((167, 2, 0) :: ((167, 1, (-1)) :: ((167, 0, 0) :: WI))))) (wr ((141, 3, 167) :: ((167, 4, 168) :: (rws 168 6 ++ WR)))) (MF.take 111) Q) : PW X d (MF.take 239) mX4_init (MF.take 73) 50 [(2, 136), (0, 3)] [] (wr WI) (wr WR) (MF.take 103) Q := by
  refine P_iload_n (n := 1) (q := 51) rfl rfl (by decide +kernel) ?_
  refine P_bipush (n := 20) (q := 53) rfl rfl (by decide +kernel) ?_
  refine P_icmp_ge (off := (22)) (t := 75) (q := 56) (by decide) rfl (by decide +kernel) (fun h => absurd h (by decide)) (fun _ => ?_)
  refine P_aload_n (n := 0) (q := 57) rfl rfl (by decide +kernel) ?_
  refine B_getfR fX4_22 (by decide +kernel) h1 (q := 60) rfl (by decide +kernel) ?_
  refine P_iload_n (n := 1) (q := 61) rfl rfl (by decide +kernel) ?_
  refine T_new (ci := 8) (N := 5) (c := 167) (n := 103) (q := 64) cOK8 (by decide +kernel) (tGp2 68 rfl rfl) (tGp1 116 rfl rfl) (tGp1 8 rfl rfl) (by decide +kernel) (by decide) (by decide) (hI.up (by decide)) (hR.up (by decide)) rfl (by decide +kernel) ?_
  refine P_dup (Nat.ne_of_beq_eq_false rfl) (q := 65) rfl (by decide +kernel) ?_
  refine T_ctor (ci := 8) (n' := 111) (d' := 1) (As := []) (q := 68) oX8_init rfl (by decide +kernel) (by decide) (Or.inr kX4_36) (by omega) (by decide) (by decide) (by decide) (n_State_167 (hI.up (by decide)) (hR.up (by decide))) rfl (by decide +kernel) ?_
  refine T_aast (by decide +kernel) (by decide +kernel) (by decide) (by decide +kernel) (q := 69) rfl (by decide +kernel) ?_
  refine P_iinc (n := 1) (a := 1) (x := 3) (by decide) rfl (q := 72) rfl (by decide +kernel) ?_
  refine P_goto (off := (-22)) (t := 50) (by decide) (by decide +kernel) ?_
  exact k (Lt.one (Lt.one (Lt.one (Lt.one (hI.up (by decide)) (by decide)) (by decide)) (by decide)) (by decide)) (Lt.one (Lt.one (Lt_rws (hR.up (by decide)) (by decide)) (by decide)) (by decide)) ((wr_o (by decide)).trans ((wr_o (by decide)).trans ((wr_r (by decide)).trans h1)))
theorem n_State_175 {X : CX} {WI WR : List (Int × Int × Int)} (hI : Lt WI 176) (hR : Lt WR 176) : Callee X 1 mX8_init (MF.take 112) (MF.take 119) [(2, 175)] (wr WI) (wr WR) (fun _ I' R' => I' = wr ((175, 3, 0) :: ((175, 2, 0) :: ((175, 1, (-1)) :: ((175, 0, 0) :: WI)))) ∧ R' = wr ((175, 4, 176) :: (rws 176 6 ++ WR))) := by
  have e : ((MF.take 112).length : Int) = 112 := by decide +kernel
  have h := i_State (X := X) (M := MF.take 112) (WI := WI) (WR := WR) (o := 175) (by decide +kernel) (by decide +kernel) (by rw [e]; exact hI.out) (by rw [e]; exact hR.out) (by rw [e]; decide)
  rw [e, show MF.take 112 ++ (15, 6) :: List.replicate 6 (12, 8) = MF.take 119 by decide +kernel] at h
  exact h
theorem G_Pa_50_4 {X : CX} {d : Nat} {WI WR : List (Int × Int × Int)} {Q : PV → PF → PF → Prop} (hd : 2 ≤ d) (hI : Lt WI 175) (hR : Lt WR 175) (h1 : wr WR 136 2 = 141) (k : Lt ((175, 3, 0) :: ((175, 2, 0) :: ((175, 1, (-1)) :: ((175, 0, 0) :: WI)))) 183 → Lt ((141, 4, 175) :: ((175, 4, 176) :: (rws 176 6 ++ WR))) 183 → wr ((141, 4, 175) :: ((175, 4, 176) :: (rws 176 6 ++ WR))) 136 2 = 141 → PW X d (MF.take 239) mX4_init (MF.take 73) 50 [(2, 136), (0, 5)] [] (wr ((175, 3, 0) :: ((175, 2, 0) :: ((175, 1, (-1)) :: ((175, 0, 0) :: WI))))) (wr ((141, 4, 175) :: ((175, 4, 176) :: (rws 176 6 ++ WR)))) (MF.take 119) Q) : PW X d (MF.take 239) mX4_init (MF.take 73) 50 [(2, 136), (0, 4)] [] (wr WI) (wr WR) (MF.take 111) Q := by
  refine P_iload_n (n := 1) (q := 51) rfl rfl (by decide +kernel) ?_
  refine P_bipush (n := 20) (q := 53) rfl rfl (by decide +kernel) ?_
  refine P_icmp_ge (off := (22)) (t := 75) (q := 56) (by decide) rfl (by decide +kernel) (fun h => absurd h (by decide)) (fun _ => ?_)
  refine P_aload_n (n := 0) (q := 57) rfl rfl (by decide +kernel) ?_
  refine B_getfR fX4_22 (by decide +kernel) h1 (q := 60) rfl (by decide +kernel) ?_
  refine P_iload_n (n := 1) (q := 61) rfl rfl (by decide +kernel) ?_
  refine T_new (ci := 8) (N := 5) (c := 175) (n := 111) (q := 64) cOK8 (by decide +kernel) (tGp2 68 rfl rfl) (tGp1 116 rfl rfl) (tGp1 8 rfl rfl) (by decide +kernel) (by decide) (by decide) (hI.up (by decide)) (hR.up (by decide)) rfl (by decide +kernel) ?_
  refine P_dup (Nat.ne_of_beq_eq_false rfl) (q := 65) rfl (by decide +kernel) ?_
  refine T_ctor (ci := 8) (n' := 119) (d' := 1) (As := []) (q := 68) oX8_init rfl (by decide +kernel) (by decide) (Or.inr kX4_36) (by omega) (by decide) (by decide) (by decide) (n_State_175 (hI.up (by decide)) (hR.up (by decide))) rfl (by decide +kernel) ?_
  refine T_aast (by decide +kernel) (by decide +kernel) (by decide) (by decide +kernel) (q := 69) rfl (by decide +kernel) ?_
  refine P_iinc (n := 1) (a := 1) (x := 4) (by decide) rfl (q := 72) rfl (by decide +kernel) ?_
  refine P_goto (off := (-22)) (t := 50) (by decide) (by decide +kernel) ?_
  exact k (Lt.one (Lt.one (Lt.one (Lt.one (hI.up (by decide)) (by decide)) (by decide)) (by decide)) (by decide)) (Lt.one (Lt.one (Lt_rws (hR.up (by decide)) (by decide)) (by decide)) (by decide)) ((wr_o (by decide)).trans ((wr_o (by decide)).trans ((wr_r (by decide)).trans h1)))
theorem n_State_183 {X : CX} {WI WR : List (Int × Int × Int)} (hI : Lt WI 184) (hR : Lt WR 184) : Callee X 1 mX8_init (MF.take 120) (MF.take 127) [(2, 183)] (wr WI) (wr WR) (fun _ I' R' => I' = wr ((183, 3, 0) :: ((183, 2, 0) :: ((183, 1, (-1)) :: ((183, 0, 0) :: WI)))) ∧ R' = wr ((183, 4, 184) :: (rws 184 6 ++ WR))) := by
  have e : ((MF.take 120).length : Int) = 120 := by decide +kernel
  have h := i_State (X := X) (M := MF.take 120) (WI := WI) (WR := WR) (o := 183) (by decide +kernel) (by decide +kernel) (by rw [e]; exact hI.out) (by rw [e]; exact hR.out) (by rw [e]; decide)
  rw [e, show MF.take 120 ++ (15, 6) :: List.replicate 6 (12, 8) = MF.take 127 by decide +kernel] at h
  exact h
theorem G_Pa_50_5 {X : CX} {d : Nat} {WI WR : List (Int × Int × Int)} {Q : PV → PF → PF → Prop} (hd : 2 ≤ d) (hI : Lt WI 183) (hR : Lt WR 183) (h1 : wr WR 136 2 = 141) (k : Lt ((183, 3, 0) :: ((183, 2, 0) :: ((183, 1, (-1)) :: ((183, 0, 0) :: WI)))) 191 → Lt ((141, 5, 183) :: ((183, 4, 184) :: (rws 184 6 ++ WR))) 191 → wr ((141, 5, 183) :: ((183, 4, 184) :: (rws 184 6 ++ WR))) 136 2 = 141 → PW X d (MF.take 239) mX4_init (MF.take 73) 50 [(2, 136), (0, 6)] [] (wr ((183, 3, 0) :: ((183, 2, 0) :: ((183, 1, (-1)) :: ((183, 0, 0) :: WI))))) (wr ((141, 5, 183) :: ((183, 4, 184) :: (rws 184 6 ++ WR)))) (MF.take 127) Q) : PW X d (MF.take 239) mX4_init (MF.take 73) 50 [(2, 136), (0, 5)] [] (wr WI) (wr WR) (MF.take 119) Q := by
  refine P_iload_n (n := 1) (q := 51) rfl rfl (by decide +kernel) ?_
  refine P_bipush (n := 20) (q := 53) rfl rfl (by decide +kernel) ?_
  refine P_icmp_ge (off := (22)) (t := 75) (q := 56) (by decide) rfl (by decide +kernel) (fun h => absurd h (by decide)) (fun _ => ?_)
  refine P_aload_n (n := 0) (q := 57) rfl rfl (by decide +kernel) ?_
  refine B_getfR fX4_22 (by decide +kernel) h1 (q := 60) rfl (by decide +kernel) ?_
  refine P_iload_n (n := 1) (q := 61) rfl rfl (by decide +kernel) ?_
  refine T_new (ci := 8) (N := 5) (c := 183) (n := 119) (q := 64) cOK8 (by decide +kernel) (tGp2 68 rfl rfl) (tGp1 116 rfl rfl) (tGp1 8 rfl rfl) (by decide +kernel) (by decide) (by decide) (hI.up (by decide)) (hR.up (by decide)) rfl (by decide +kernel) ?_
  refine P_dup (Nat.ne_of_beq_eq_false rfl) (q := 65) rfl (by decide +kernel) ?_
  refine T_ctor (ci := 8) (n' := 127) (d' := 1) (As := []) (q := 68) oX8_init rfl (by decide +kernel) (by decide) (Or.inr kX4_36) (by omega) (by decide) (by decide) (by decide) (n_State_183 (hI.up (by decide)) (hR.up (by decide))) rfl (by decide +kernel) ?_
  refine T_aast (by decide +kernel) (by decide +kernel) (by decide) (by decide +kernel) (q := 69) rfl (by decide +kernel) ?_
  refine P_iinc (n := 1) (a := 1) (x := 5) (by decide) rfl (q := 72) rfl (by decide +kernel) ?_
  refine P_goto (off := (-22)) (t := 50) (by decide) (by decide +kernel) ?_
  exact k (Lt.one (Lt.one (Lt.one (Lt.one (hI.up (by decide)) (by decide)) (by decide)) (by decide)) (by decide)) (Lt.one (Lt.one (Lt_rws (hR.up (by decide)) (by decide)) (by decide)) (by decide)) ((wr_o (by decide)).trans ((wr_o (by decide)).trans ((wr_r (by decide)).trans h1)))
theorem n_State_191 {X : CX} {WI WR : List (Int × Int × Int)} (hI : Lt WI 192) (hR : Lt WR 192) : Callee X 1 mX8_init (MF.take 128) (MF.take 135) [(2, 191)] (wr WI) (wr WR) (fun _ I' R' => I' = wr ((191, 3, 0) :: ((191, 2, 0) :: ((191, 1, (-1)) :: ((191, 0, 0) :: WI)))) ∧ R' = wr ((191, 4, 192) :: (rws 192 6 ++ WR))) := by
  have e : ((MF.take 128).length : Int) = 128 := by decide +kernel
  have h := i_State (X := X) (M := MF.take 128) (WI := WI) (WR := WR) (o := 191) (by decide +kernel) (by decide +kernel) (by rw [e]; exact hI.out) (by rw [e]; exact hR.out) (by rw [e]; decide)
  rw [e, show MF.take 128 ++ (15, 6) :: List.replicate 6 (12, 8) = MF.take 135 by decide +kernel] at h
  exact h
theorem G_Pa_50_6 {X : CX} {d : Nat} {WI WR : List (Int × Int × Int)} {Q : PV → PF → PF → Prop} (hd : 2 ≤ d) (hI : Lt WI 191) (hR : Lt WR 191) (h1 : wr WR 136 2 = 141) (k : Lt ((191, 3, 0) :: ((191, 2, 0) :: ((191, 1, (-1)) :: ((191, 0, 0) :: WI)))) 199 → Lt ((141, 6, 191) :: ((191, 4, 192) :: (rws 192 6 ++ WR))) 199 → wr ((141, 6, 191) :: ((191, 4, 192) :: (rws 192 6 ++ WR))) 136 2 = 141 → PW X d (MF.take 239) mX4_init (MF.take 73) 50 [(2, 136), (0, 7)] [] (wr ((191, 3, 0) :: ((191, 2, 0) :: ((191, 1, (-1)) :: ((191, 0, 0) :: WI))))) (wr ((141, 6, 191) :: ((191, 4, 192) :: (rws 192 6 ++ WR)))) (MF.take 135) Q) : PW X d (MF.take 239) mX4_init (MF.take 73) 50 [(2, 136), (0, 6)] [] (wr WI) (wr WR) (MF.take 127) Q := by
  refine P_iload_n (n := 1) (q := 51) rfl rfl (by decide +kernel) ?_
  refine P_bipush (n := 20) (q := 53) rfl rfl (by decide +kernel) ?_
  refine P_icmp_ge (off := (22)) (t := 75) (q := 56) (by decide) rfl (by decide +kernel) (fun h => absurd h (by decide)) (fun _ => ?_)
  refine P_aload_n (n := 0) (q := 57) rfl rfl (by decide +kernel) ?_
  refine B_getfR fX4_22 (by decide +kernel) h1 (q := 60) rfl (by decide +kernel) ?_
  refine P_iload_n (n := 1) (q := 61) rfl rfl (by decide +kernel) ?_
  refine T_new (ci := 8) (N := 5) (c := 191) (n := 127) (q := 64) cOK8 (by decide +kernel) (tGp2 68 rfl rfl) (tGp1 116 rfl rfl) (tGp1 8 rfl rfl) (by decide +kernel) (by decide) (by decide) (hI.up (by decide)) (hR.up (by decide)) rfl (by decide +kernel) ?_
  refine P_dup (Nat.ne_of_beq_eq_false rfl) (q := 65) rfl (by decide +kernel) ?_
  refine T_ctor (ci := 8) (n' := 135) (d' := 1) (As := []) (q := 68) oX8_init rfl (by decide +kernel) (by decide) (Or.inr kX4_36) (by omega) (by decide) (by decide) (by decide) (n_State_191 (hI.up (by decide)) (hR.up (by decide))) rfl (by decide +kernel) ?_
  refine T_aast (by decide +kernel) (by decide +kernel) (by decide) (by decide +kernel) (q := 69) rfl (by decide +kernel) ?_
  refine P_iinc (n := 1) (a := 1) (x := 6) (by decide) rfl (q := 72) rfl (by decide +kernel) ?_
  refine P_goto (off := (-22)) (t := 50) (by decide) (by decide +kernel) ?_
  exact k (Lt.one (Lt.one (Lt.one (Lt.one (hI.up (by decide)) (by decide)) (by decide)) (by decide)) (by decide)) (Lt.one (Lt.one (Lt_rws (hR.up (by decide)) (by decide)) (by decide)) (by decide)) ((wr_o (by decide)).trans ((wr_o (by decide)).trans ((wr_r (by decide)).trans h1)))
theorem n_State_199 {X : CX} {WI WR : List (Int × Int × Int)} (hI : Lt WI 200) (hR : Lt WR 200) : Callee X 1 mX8_init (MF.take 136) (MF.take 143) [(2, 199)] (wr WI) (wr WR) (fun _ I' R' => I' = wr ((199, 3, 0) :: ((199, 2, 0) :: ((199, 1, (-1)) :: ((199, 0, 0) :: WI)))) ∧ R' = wr ((199, 4, 200) :: (rws 200 6 ++ WR))) := by
  have e : ((MF.take 136).length : Int) = 136 := by decide +kernel
  have h := i_State (X := X) (M := MF.take 136) (WI := WI) (WR := WR) (o := 199) (by decide +kernel) (by decide +kernel) (by rw [e]; exact hI.out) (by rw [e]; exact hR.out) (by rw [e]; decide)
  rw [e, show MF.take 136 ++ (15, 6) :: List.replicate 6 (12, 8) = MF.take 143 by decide +kernel] at h
  exact h
theorem G_Pa_50_7 {X : CX} {d : Nat} {WI WR : List (Int × Int × Int)} {Q : PV → PF → PF → Prop} (hd : 2 ≤ d) (hI : Lt WI 199) (hR : Lt WR 199) (h1 : wr WR 136 2 = 141) (k : Lt ((199, 3, 0) :: ((199, 2, 0) :: ((199, 1, (-1)) :: ((199, 0, 0) :: WI)))) 207 → Lt ((141, 7, 199) :: ((199, 4, 200) :: (rws 200 6 ++ WR))) 207 → wr ((141, 7, 199) :: ((199, 4, 200) :: (rws 200 6 ++ WR))) 136 2 = 141 → PW X d (MF.take 239) mX4_init (MF.take 73) 50 [(2, 136), (0, 8)] [] (wr ((199, 3, 0) :: ((199, 2, 0) :: ((199, 1, (-1)) :: ((199, 0, 0) :: WI))))) (wr ((141, 7, 199) :: ((199, 4, 200) :: (rws 200 6 ++ WR)))) (MF.take 143) Q) : PW X d (MF.take 239) mX4_init (MF.take 73) 50 [(2, 136), (0, 7)] [] (wr WI) (wr WR) (MF.take 135) Q := by
  refine P_iload_n (n := 1) (q := 51) rfl rfl (by decide +kernel) ?_
  refine P_bipush (n := 20) (q := 53) rfl rfl (by decide +kernel) ?_
  refine P_icmp_ge (off := (22)) (t := 75) (q := 56) (by decide) rfl (by decide +kernel) (fun h => absurd h (by decide)) (fun _ => ?_)
  refine P_aload_n (n := 0) (q := 57) rfl rfl (by decide +kernel) ?_
  refine B_getfR fX4_22 (by decide +kernel) h1 (q := 60) rfl (by decide +kernel) ?_
  refine P_iload_n (n := 1) (q := 61) rfl rfl (by decide +kernel) ?_
  refine T_new (ci := 8) (N := 5) (c := 199) (n := 135) (q := 64) cOK8 (by decide +kernel) (tGp2 68 rfl rfl) (tGp1 116 rfl rfl) (tGp1 8 rfl rfl) (by decide +kernel) (by decide) (by decide) (hI.up (by decide)) (hR.up (by decide)) rfl (by decide +kernel) ?_
  refine P_dup (Nat.ne_of_beq_eq_false rfl) (q := 65) rfl (by decide +kernel) ?_
  refine T_ctor (ci := 8) (n' := 143) (d' := 1) (As := []) (q := 68) oX8_init rfl (by decide +kernel) (by decide) (Or.inr kX4_36) (by omega) (by decide) (by decide) (by decide) (n_State_199 (hI.up (by decide)) (hR.up (by decide))) rfl (by decide +kernel) ?_
  refine T_aast (by decide +kernel) (by decide +kernel) (by decide) (by decide +kernel) (q := 69) rfl (by decide +kernel) ?_
  refine P_iinc (n := 1) (a := 1) (x := 7) (by decide) rfl (q := 72) rfl (by decide +kernel) ?_
  refine P_goto (off := (-22)) (t := 50) (by decide) (by decide +kernel) ?_
  exact k (Lt.one (Lt.one (Lt.one (Lt.one (hI.up (by decide)) (by decide)) (by decide)) (by decide)) (by decide)) (Lt.one (Lt.one (Lt_rws (hR.up (by decide)) (by decide)) (by decide)) (by decide)) ((wr_o (by decide)).trans ((wr_o (by decide)).trans ((wr_r (by decide)).trans h1)))
theorem n_State_207 {X : CX} {WI WR : List (Int × Int × Int)} (hI : Lt WI 208) (hR : Lt WR 208) : Callee X 1 mX8_init (MF.take 144) (MF.take 151) [(2, 207)] (wr WI) (wr WR) (fun _ I' R' => I' = wr ((207, 3, 0) :: ((207, 2, 0) :: ((207, 1, (-1)) :: ((207, 0, 0) :: WI)))) ∧ R' = wr ((207, 4, 208) :: (rws 208 6 ++ WR))) := by
  have e : ((MF.take 144).length : Int) = 144 := by decide +kernel
  have h := i_State (X := X) (M := MF.take 144) (WI := WI) (WR := WR) (o := 207) (by decide +kernel) (by decide +kernel) (by rw [e]; exact hI.out) (by rw [e]; exact hR.out) (by rw [e]; decide)
  rw [e, show MF.take 144 ++ (15, 6) :: List.replicate 6 (12, 8) = MF.take 151 by decide +kernel] at h
  exact h
theorem G_Pa_50_8 {X : CX} {d : Nat} {WI WR : List (Int × Int × Int)} {Q : PV → PF → PF → Prop} (hd : 2 ≤ d) (hI : Lt WI 207) (hR : Lt WR 207) (h1 : wr WR 136 2 = 141) (k : Lt ((207, 3, 0) :: ((207, 2, 0) :: ((207, 1, (-1)) :: ((207, 0, 0) :: WI)))) 215 → Lt ((141, 8, 207) :: ((207, 4, 208) :: (rws 208 6 ++ WR))) 215 → wr ((141, 8, 207) :: ((207, 4, 208) :: (rws 208 6 ++ WR))) 136 2 = 141 → PW X d (MF.take 239) mX4_init (MF.take 73) 50 [(2, 136), (0, 9)] [] (wr ((207, 3, 0) :: ((207, 2, 0) :: ((207, 1, (-1)) :: ((207, 0, 0) :: WI))))) (wr ((141, 8, 207) :: ((207, 4, 208) :: (rws 208 6 ++ WR)))) (MF.take 151) Q) : PW X d (MF.take 239) mX4_init (MF.take 73) 50 [(2, 136), (0, 8)] [] (wr WI) (wr WR) (MF.take 143) Q := by
  refine P_iload_n (n := 1) (q := 51) rfl rfl (by decide +kernel) ?_
  refine P_bipush (n := 20) (q := 53) rfl rfl (by decide +kernel) ?_
  refine P_icmp_ge (off := (22)) (t := 75) (q := 56) (by decide) rfl (by decide +kernel) (fun h => absurd h (by decide)) (fun _ => ?_)
  refine P_aload_n (n := 0) (q := 57) rfl rfl (by decide +kernel) ?_
  refine B_getfR fX4_22 (by decide +kernel) h1 (q := 60) rfl (by decide +kernel) ?_
  refine P_iload_n (n := 1) (q := 61) rfl rfl (by decide +kernel) ?_
  refine T_new (ci := 8) (N := 5) (c := 207) (n := 143) (q := 64) cOK8 (by decide +kernel) (tGp2 68 rfl rfl) (tGp1 116 rfl rfl) (tGp1 8 rfl rfl) (by decide +kernel) (by decide) (by decide) (hI.up (by decide)) (hR.up (by decide)) rfl (by decide +kernel) ?_
  refine P_dup (Nat.ne_of_beq_eq_false rfl) (q := 65) rfl (by decide +kernel) ?_
  refine T_ctor (ci := 8) (n' := 151) (d' := 1) (As := []) (q := 68) oX8_init rfl (by decide +kernel) (by decide) (Or.inr kX4_36) (by omega) (by decide) (by decide) (by decide) (n_State_207 (hI.up (by decide)) (hR.up (by decide))) rfl (by decide +kernel) ?_
  refine T_aast (by decide +kernel) (by decide +kernel) (by decide) (by decide +kernel) (q := 69) rfl (by decide +kernel) ?_
  refine P_iinc (n := 1) (a := 1) (x := 8) (by decide) rfl (q := 72) rfl (by decide +kernel) ?_
  refine P_goto (off := (-22)) (t := 50) (by decide) (by decide +kernel) ?_
  exact k (Lt.one (Lt.one (Lt.one (Lt.one (hI.up (by decide)) (by decide)) (by decide)) (by decide)) (by decide)) (Lt.one (Lt.one (Lt_rws (hR.up (by decide)) (by decide)) (by decide)) (by decide)) ((wr_o (by decide)).trans ((wr_o (by decide)).trans ((wr_r (by decide)).trans h1)))
theorem n_State_215 {X : CX} {WI WR : List (Int × Int × Int)} (hI : Lt WI 216) (hR : Lt WR 216) : Callee X 1 mX8_init (MF.take 152) (MF.take 159) [(2, 215)] (wr WI) (wr WR) (fun _ I' R' => I' = wr ((215, 3, 0) :: ((215, 2, 0) :: ((215, 1, (-1)) :: ((215, 0, 0) :: WI)))) ∧ R' = wr ((215, 4, 216) :: (rws 216 6 ++ WR))) := by
  have e : ((MF.take 152).length : Int) = 152 := by decide +kernel
  have h := i_State (X := X) (M := MF.take 152) (WI := WI) (WR := WR) (o := 215) (by decide +kernel) (by decide +kernel) (by rw [e]; exact hI.out) (by rw [e]; exact hR.out) (by rw [e]; decide)
  rw [e, show MF.take 152 ++ (15, 6) :: List.replicate 6 (12, 8) = MF.take 159 by decide +kernel] at h
  exact h
theorem G_Pa_50_9 {X : CX} {d : Nat} {WI WR : List (Int × Int × Int)} {Q : PV → PF → PF → Prop} (hd : 2 ≤ d) (hI : Lt WI 215) (hR : Lt WR 215) (h1 : wr WR 136 2 = 141) (k : Lt ((215, 3, 0) :: ((215, 2, 0) :: ((215, 1, (-1)) :: ((215, 0, 0) :: WI)))) 223 → Lt ((141, 9, 215) :: ((215, 4, 216) :: (rws 216 6 ++ WR))) 223 → wr ((141, 9, 215) :: ((215, 4, 216) :: (rws 216 6 ++ WR))) 136 2 = 141 → PW X d (MF.take 239) mX4_init (MF.take 73) 50 [(2, 136), (0, 10)] [] (wr ((215, 3, 0) :: ((215, 2, 0) :: ((215, 1, (-1)) :: ((215, 0, 0) :: WI))))) (wr ((141, 9, 215) :: ((215, 4, 216) :: (rws 216 6 ++ WR)))) (MF.take 159) Q) : PW X d (MF.take 239) mX4_init (MF.take 73) 50 [(2, 136), (0, 9)] [] (wr WI) (wr WR) (MF.take 151) Q := by
  refine P_iload_n (n := 1) (q := 51) rfl rfl (by decide +kernel) ?_
  refine P_bipush (n := 20) (q := 53) rfl rfl (by decide +kernel) ?_
  refine P_icmp_ge (off := (22)) (t := 75) (q := 56) (by decide) rfl (by decide +kernel) (fun h => absurd h (by decide)) (fun _ => ?_)
  refine P_aload_n (n := 0) (q := 57) rfl rfl (by decide +kernel) ?_
  refine B_getfR fX4_22 (by decide +kernel) h1 (q := 60) rfl (by decide +kernel) ?_
  refine P_iload_n (n := 1) (q := 61) rfl rfl (by decide +kernel) ?_
  refine T_new (ci := 8) (N := 5) (c := 215) (n := 151) (q := 64) cOK8 (by decide +kernel) (tGp2 68 rfl rfl) (tGp1 116 rfl rfl) (tGp1 8 rfl rfl) (by decide +kernel) (by decide) (by decide) (hI.up (by decide)) (hR.up (by decide)) rfl (by decide +kernel) ?_
  refine P_dup (Nat.ne_of_beq_eq_false rfl) (q := 65) rfl (by decide +kernel) ?_
  refine T_ctor (ci := 8) (n' := 159) (d' := 1) (As := []) (q := 68) oX8_init rfl (by decide +kernel) (by decide) (Or.inr kX4_36) (by omega) (by decide) (by decide) (by decide) (n_State_215 (hI.up (by decide)) (hR.up (by decide))) rfl (by decide +kernel) ?_
  refine T_aast (by decide +kernel) (by decide +kernel) (by decide) (by decide +kernel) (q := 69) rfl (by decide +kernel) ?_
  refine P_iinc (n := 1) (a := 1) (x := 9) (by decide) rfl (q := 72) rfl (by decide +kernel) ?_
  refine P_goto (off := (-22)) (t := 50) (by decide) (by decide +kernel) ?_
  exact k (Lt.one (Lt.one (Lt.one (Lt.one (hI.up (by decide)) (by decide)) (by decide)) (by decide)) (by decide)) (Lt.one (Lt.one (Lt_rws (hR.up (by decide)) (by decide)) (by decide)) (by decide)) ((wr_o (by decide)).trans ((wr_o (by decide)).trans ((wr_r (by decide)).trans h1)))
theorem n_State_223 {X : CX} {WI WR : List (Int × Int × Int)} (hI : Lt WI 224) (hR : Lt WR 224) : Callee X 1 mX8_init (MF.take 160) (MF.take 167) [(2, 223)] (wr WI) (wr WR) (fun _ I' R' => I' = wr ((223, 3, 0) :: ((223, 2, 0) :: ((223, 1, (-1)) :: ((223, 0, 0) :: WI)))) ∧ R' = wr ((223, 4, 224) :: (rws 224 6 ++ WR))) := by
  have e : ((MF.take 160).length : Int) = 160 := by decide +kernel
  have h := i_State (X := X) (M := MF.take 160) (WI := WI) (WR := WR) (o := 223) (by decide +kernel) (by decide +kernel) (by rw [e]; exact hI.out) (by rw [e]; exact hR.out) (by rw [e]; decide)
  rw [e, show MF.take 160 ++ (15, 6) :: List.replicate 6 (12, 8) = MF.take 167 by decide +kernel] at h
  exact h
theorem G_Pa_50_10 {X : CX} {d : Nat} {WI WR : List (Int × Int × Int)} {Q : PV → PF → PF → Prop} (hd : 2 ≤ d) (hI : Lt WI 223) (hR : Lt WR 223) (h1 : wr WR 136 2 = 141) (k : Lt ((223, 3, 0) :: ((223, 2, 0) :: ((223, 1, (-1)) :: ((223, 0, 0) :: WI)))) 231 → Lt ((141, 10, 223) :: ((223, 4, 224) :: (rws 224 6 ++ WR))) 231 → wr ((141, 10, 223) :: ((223, 4, 224) :: (rws 224 6 ++ WR))) 136 2 = 141 → PW X d (MF.take 239) mX4_init (MF.take 73) 50 [(2, 136), (0, 11)] [] (wr ((223, 3, 0) :: ((223, 2, 0) :: ((223, 1, (-1)) :: ((223, 0, 0) :: WI))))) (wr ((141, 10, 223) :: ((223, 4, 224) :: (rws 224 6 ++ WR)))) (MF.take 167) Q) : PW X d (MF.take 239) mX4_init (MF.take 73) 50 [(2, 136), (0, 10)] [] (wr WI) (wr WR) (MF.take 159) Q := by
  refine P_iload_n (n := 1) (q := 51) rfl rfl (by decide +kernel) ?_
  refine P_bipush (n := 20) (q := 53) rfl rfl (by decide +kernel) ?_
  refine P_icmp_ge (off := (22)) (t := 75) (q := 56) (by decide) rfl (by decide +kernel) (fun h => absurd h (by decide)) (fun _ => ?_)
  refine P_aload_n (n := 0) (q := 57) rfl rfl (by decide +kernel) ?_
  refine B_getfR fX4_22 (by decide +kernel) h1 (q := 60) rfl (by decide +kernel) ?_
  refine P_iload_n (n := 1) (q := 61) rfl rfl (by decide +kernel) ?_
  refine T_new (ci := 8) (N := 5) (c := 223) (n := 159) (q := 64) cOK8 (by decide +kernel) (tGp2 68 rfl rfl) (tGp1 116 rfl rfl) (tGp1 8 rfl rfl) (by decide +kernel) (by decide) (by decide) (hI.up (by decide)) (hR.up (by decide)) rfl (by decide +kernel) ?_
  refine P_dup (Nat.ne_of_beq_eq_false rfl) (q := 65) rfl (by decide +kernel) ?_
  refine T_ctor (ci := 8) (n' := 167) (d' := 1) (As := []) (q := 68) oX8_init rfl (by decide +kernel) (by decide) (Or.inr kX4_36) (by omega) (by decide) (by decide) (by decide) (n_State_223 (hI.up (by decide)) (hR.up (by decide))) rfl (by decide +kernel) ?_
  refine T_aast (by decide +kernel) (by decide +kernel) (by decide) (by decide +kernel) (q := 69) rfl (by decide +kernel) ?_
  refine P_iinc (n := 1) (a := 1) (x := 10) (by decide) rfl (q := 72) rfl (by decide +kernel) ?_
  refine P_goto (off := (-22)) (t := 50) (by decide) (by decide +kernel) ?_
  exact k (Lt.one (Lt.one (Lt.one (Lt.one (hI.up (by decide)) (by decide)) (by decide)) (by decide)) (by decide)) (Lt.one (Lt.one (Lt_rws (hR.up (by decide)) (by decide)) (by decide)) (by decide)) ((wr_o (by decide)).trans ((wr_o (by decide)).trans ((wr_r (by decide)).trans h1)))
theorem n_State_231 {X : CX} {WI WR : List (Int × Int × Int)} (hI : Lt WI 232) (hR : Lt WR 232) : Callee X 1 mX8_init (MF.take 168) (MF.take 175) [(2, 231)] (wr WI) (wr WR) (fun _ I' R' => I' = wr ((231, 3, 0) :: ((231, 2, 0) :: ((231, 1, (-1)) :: ((231, 0, 0) :: WI)))) ∧ R' = wr ((231, 4, 232) :: (rws 232 6 ++ WR))) := by
  have e : ((MF.take 168).length : Int) = 168 := by decide +kernel
  have h := i_State (X := X) (M := MF.take 168) (WI := WI) (WR := WR) (o := 231) (by decide +kernel) (by decide +kernel) (by rw [e]; exact hI.out) (by rw [e]; exact hR.out) (by rw [e]; decide)
  rw [e, show MF.take 168 ++ (15, 6) :: List.replicate 6 (12, 8) = MF.take 175 by decide +kernel] at h
  exact h
theorem G_Pa_50_11 {X : CX} {d : Nat} {WI WR : List (Int × Int × Int)} {Q : PV → PF → PF → Prop} (hd : 2 ≤ d) (hI : Lt WI 231) (hR : Lt WR 231) (h1 : wr WR 136 2 = 141) (k : Lt ((231, 3, 0) :: ((231, 2, 0) :: ((231, 1, (-1)) :: ((231, 0, 0) :: WI)))) 239 → Lt ((141, 11, 231) :: ((231, 4, 232) :: (rws 232 6 ++ WR))) 239 → wr ((141, 11, 231) :: ((231, 4, 232) :: (rws 232 6 ++ WR))) 136 2 = 141 → PW X d (MF.take 239) mX4_init (MF.take 73) 50 [(2, 136), (0, 12)] [] (wr ((231, 3, 0) :: ((231, 2, 0) :: ((231, 1, (-1)) :: ((231, 0, 0) :: WI))))) (wr ((141, 11, 231) :: ((231, 4, 232) :: (rws 232 6 ++ WR)))) (MF.take 175) Q) : PW X d (MF.take 239) mX4_init (MF.take 73) 50 [(2, 136), (0, 11)] [] (wr WI) (wr WR) (MF.take 167) Q := by
  refine P_iload_n (n := 1) (q := 51) rfl rfl (by decide +kernel) ?_
  refine P_bipush (n := 20) (q := 53) rfl rfl (by decide +kernel) ?_
  refine P_icmp_ge (off := (22)) (t := 75) (q := 56) (by decide) rfl (by decide +kernel) (fun h => absurd h (by decide)) (fun _ => ?_)
  refine P_aload_n (n := 0) (q := 57) rfl rfl (by decide +kernel) ?_
  refine B_getfR fX4_22 (by decide +kernel) h1 (q := 60) rfl (by decide +kernel) ?_
  refine P_iload_n (n := 1) (q := 61) rfl rfl (by decide +kernel) ?_
  refine T_new (ci := 8) (N := 5) (c := 231) (n := 167) (q := 64) cOK8 (by decide +kernel) (tGp2 68 rfl rfl) (tGp1 116 rfl rfl) (tGp1 8 rfl rfl) (by decide +kernel) (by decide) (by decide) (hI.up (by decide)) (hR.up (by decide)) rfl (by decide +kernel) ?_
  refine P_dup (Nat.ne_of_beq_eq_false rfl) (q := 65) rfl (by decide +kernel) ?_
  refine T_ctor (ci := 8) (n' := 175) (d' := 1) (As := []) (q := 68) oX8_init rfl (by decide +kernel) (by decide) (Or.inr kX4_36) (by omega) (by decide) (by decide) (by decide) (n_State_231 (hI.up (by decide)) (hR.up (by decide))) rfl (by decide +kernel) ?_
  refine T_aast (by decide +kernel) (by decide +kernel) (by decide) (by decide +kernel) (q := 69) rfl (by decide +kernel) ?_
  refine P_iinc (n := 1) (a := 1) (x := 11) (by decide) rfl (q := 72) rfl (by decide +kernel) ?_
  refine P_goto (off := (-22)) (t := 50) (by decide) (by decide +kernel) ?_
  exact k (Lt.one (Lt.one (Lt.one (Lt.one (hI.up (by decide)) (by decide)) (by decide)) (by decide)) (by decide)) (Lt.one (Lt.one (Lt_rws (hR.up (by decide)) (by decide)) (by decide)) (by decide)) ((wr_o (by decide)).trans ((wr_o (by decide)).trans ((wr_r (by decide)).trans h1)))
theorem n_State_239 {X : CX} {WI WR : List (Int × Int × Int)} (hI : Lt WI 240) (hR : Lt WR 240) : Callee X 1 mX8_init (MF.take 176) (MF.take 183) [(2, 239)] (wr WI) (wr WR) (fun _ I' R' => I' = wr ((239, 3, 0) :: ((239, 2, 0) :: ((239, 1, (-1)) :: ((239, 0, 0) :: WI)))) ∧ R' = wr ((239, 4, 240) :: (rws 240 6 ++ WR))) := by
  have e : ((MF.take 176).length : Int) = 176 := by decide +kernel
  have h := i_State (X := X) (M := MF.take 176) (WI := WI) (WR := WR) (o := 239) (by decide +kernel) (by decide +kernel) (by rw [e]; exact hI.out) (by rw [e]; exact hR.out) (by rw [e]; decide)
  rw [e, show MF.take 176 ++ (15, 6) :: List.replicate 6 (12, 8) = MF.take 183 by decide +kernel] at h
  exact h
theorem G_Pa_50_12 {X : CX} {d : Nat} {WI WR : List (Int × Int × Int)} {Q : PV → PF → PF → Prop} (hd : 2 ≤ d) (hI : Lt WI 239) (hR : Lt WR 239) (h1 : wr WR 136 2 = 141) (k : Lt ((239, 3, 0) :: ((239, 2, 0) :: ((239, 1, (-1)) :: ((239, 0, 0) :: WI)))) 247 → Lt ((141, 12, 239) :: ((239, 4, 240) :: (rws 240 6 ++ WR))) 247 → wr ((141, 12, 239) :: ((239, 4, 240) :: (rws 240 6 ++ WR))) 136 2 = 141 → PW X d (MF.take 239) mX4_init (MF.take 73) 50 [(2, 136), (0, 13)] [] (wr ((239, 3, 0) :: ((239, 2, 0) :: ((239, 1, (-1)) :: ((239, 0, 0) :: WI))))) (wr ((141, 12, 239) :: ((239, 4, 240) :: (rws 240 6 ++ WR)))) (MF.take 183) Q) : PW X d (MF.take 239) mX4_init (MF.take 73) 50 [(2, 136), (0, 12)] [] (wr WI) (wr WR) (MF.take 175) Q := by
  refine P_iload_n (n := 1) (q := 51) rfl rfl (by decide +kernel) ?_
  refine P_bipush (n := 20) (q := 53) rfl rfl (by decide +kernel) ?_
  refine P_icmp_ge (off := (22)) (t := 75) (q := 56) (by decide) rfl (by decide +kernel) (fun h => absurd h (by decide)) (fun _ => ?_)
  refine P_aload_n (n := 0) (q := 57) rfl rfl (by decide +kernel) ?_
  refine B_getfR fX4_22 (by decide +kernel) h1 (q := 60) rfl (by decide +kernel) ?_
  refine P_iload_n (n := 1) (q := 61) rfl rfl (by decide +kernel) ?_
  refine T_new (ci := 8) (N := 5) (c := 239) (n := 175) (q := 64) cOK8 (by decide +kernel) (tGp2 68 rfl rfl) (tGp1 116 rfl rfl) (tGp1 8 rfl rfl) (by decide +kernel) (by decide) (by decide) (hI.up (by decide)) (hR.up (by decide)) rfl (by decide +kernel) ?_
  refine P_dup (Nat.ne_of_beq_eq_false rfl) (q := 65) rfl (by decide +kernel) ?_
  refine T_ctor (ci := 8) (n' := 183) (d' := 1) (As := []) (q := 68) oX8_init rfl (by decide +kernel) (by decide) (Or.inr kX4_36) (by omega) (by decide) (by decide) (by decide) (n_State_239 (hI.up (by decide)) (hR.up (by decide))) rfl (by decide +kernel) ?_
  refine T_aast (by decide +kernel) (by decide +kernel) (by decide) (by decide +kernel) (q := 69) rfl (by decide +kernel) ?_
  refine P_iinc (n := 1) (a := 1) (x := 12) (by decide) rfl (q := 72) rfl (by decide +kernel) ?_
  refine P_goto (off := (-22)) (t := 50) (by decide) (by decide +kernel) ?_
  exact k (Lt.one (Lt.one (Lt.one (Lt.one (hI.up (by decide)) (by decide)) (by decide)) (by decide)) (by decide)) (Lt.one (Lt.one (Lt_rws (hR.up (by decide)) (by decide)) (by decide)) (by decide)) ((wr_o (by decide)).trans ((wr_o (by decide)).trans ((wr_r (by decide)).trans h1)))
theorem n_State_247 {X : CX} {WI WR : List (Int × Int × Int)} (hI : Lt WI 248) (hR : Lt WR 248) : Callee X 1 mX8_init (MF.take 184) (MF.take 191) [(2, 247)] (wr WI) (wr WR) (fun _ I' R' => I' = wr ((247, 3, 0) :: ((247, 2, 0) :: ((247, 1, (-1)) :: ((247, 0, 0) :: WI)))) ∧ R' = wr ((247, 4, 248) :: (rws 248 6 ++ WR))) := by
  have e : ((MF.take 184).length : Int) = 184 := by decide +kernel
  have h := i_State (X := X) (M := MF.take 184) (WI := WI) (WR := WR) (o := 247) (by decide +kernel) (by decide +kernel) (by rw [e]; exact hI.out) (by rw [e]; exact hR.out) (by rw [e]; decide)
  rw [e, show MF.take 184 ++ (15, 6) :: List.replicate 6 (12, 8) = MF.take 191 by decide +kernel] at h
  exact h
theorem G_Pa_50_13 {X : CX} {d : Nat} {WI WR : List (Int × Int × Int)} {Q : PV → PF → PF → Prop} (hd : 2 ≤ d) (hI : Lt WI 247) (hR : Lt WR 247) (h1 : wr WR 136 2 = 141) (k : Lt ((247, 3, 0) :: ((247, 2, 0) :: ((247, 1, (-1)) :: ((247, 0, 0) :: WI)))) 255 → Lt ((141, 13, 247) :: ((247, 4, 248) :: (rws 248 6 ++ WR))) 255 → wr ((141, 13, 247) :: ((247, 4, 248) :: (rws 248 6 ++ WR))) 136 2 = 141 → PW X d (MF.take 239) mX4_init (MF.take 73) 50 [(2, 136), (0, 14)] [] (wr ((247, 3, 0) :: ((247, 2, 0) :: ((247, 1, (-1)) :: ((247, 0, 0) :: WI))))) (wr ((141, 13, 247) :: ((247, 4, 248) :: (rws 248 6 ++ WR)))) (MF.take 191) Q) : PW X d (MF.take 239) mX4_init (MF.take 73) 50 [(2, 136), (0, 13)] [] (wr WI) (wr WR) (MF.take 183) Q := by
  refine P_iload_n (n := 1) (q := 51) rfl rfl (by decide +kernel) ?_
  refine P_bipush (n := 20) (q := 53) rfl rfl (by decide +kernel) ?_
  refine P_icmp_ge (off := (22)) (t := 75) (q := 56) (by decide) rfl (by decide +kernel) (fun h => absurd h (by decide)) (fun _ => ?_)
  refine P_aload_n (n := 0) (q := 57) rfl rfl (by decide +kernel) ?_
  refine B_getfR fX4_22 (by decide +kernel) h1 (q := 60) rfl (by decide +kernel) ?_
  refine P_iload_n (n := 1) (q := 61) rfl rfl (by decide +kernel) ?_
  refine T_new (ci := 8) (N := 5) (c := 247) (n := 183) (q := 64) cOK8 (by decide +kernel) (tGp2 68 rfl rfl) (tGp1 116 rfl rfl) (tGp1 8 rfl rfl) (by decide +kernel) (by decide) (by decide) (hI.up (by decide)) (hR.up (by decide)) rfl (by decide +kernel) ?_
  refine P_dup (Nat.ne_of_beq_eq_false rfl) (q := 65) rfl (by decide +kernel) ?_
  refine T_ctor (ci := 8) (n' := 191) (d' := 1) (As := []) (q := 68) oX8_init rfl (by decide +kernel) (by decide) (Or.inr kX4_36) (by omega) (by decide) (by decide) (by decide) (n_State_247 (hI.up (by decide)) (hR.up (by decide))) rfl (by decide +kernel) ?_
  refine T_aast (by decide +kernel) (by decide +kernel) (by decide) (by decide +kernel) (q := 69) rfl (by decide +kernel) ?_
  refine P_iinc (n := 1) (a := 1) (x := 13) (by decide) rfl (q := 72) rfl (by decide +kernel) ?_
  refine P_goto (off := (-22)) (t := 50) (by decide) (by decide +kernel) ?_
  exact k (Lt.one (Lt.one (Lt.one (Lt.one (hI.up (by decide)) (by decide)) (by decide)) (by decide)) (by decide)) (Lt.one (Lt.one (Lt_rws (hR.up (by decide)) (by decide)) (by decide)) (by decide)) ((wr_o (by decide)).trans ((wr_o (by decide)).trans ((wr_r (by decide)).trans h1)))
theorem n_State_255 {X : CX} {WI WR : List (Int × Int × Int)} (hI : Lt WI 256) (hR : Lt WR 256) : Callee X 1 mX8_init (MF.take 192) (MF.take 199) [(2, 255)] (wr WI) (wr WR) (fun _ I' R' => I' = wr ((255, 3, 0) :: ((255, 2, 0) :: ((255, 1, (-1)) :: ((255, 0, 0) :: WI)))) ∧ R' = wr ((255, 4, 256) :: (rws 256 6 ++ WR))) := by
  have e : ((MF.take 192).length : Int) = 192 := by decide +kernel
  have h := i_State (X := X) (M := MF.take 192) (WI := WI) (WR := WR) (o := 255) (by decide +kernel) (by decide +kernel) (by rw [e]; exact hI.out) (by rw [e]; exact hR.out) (by rw [e]; decide)
  rw [e, show MF.take 192 ++ (15, 6) :: List.replicate 6 (12, 8) = MF.take 199 by decide +kernel] at h
  exact h
theorem G_Pa_50_14 {X : CX} {d : Nat} {WI WR : List (Int × Int × Int)} {Q : PV → PF → PF → Prop} (hd : 2 ≤ d) (hI : Lt WI 255) (hR : Lt WR 255) (h1 : wr WR 136 2 = 141) (k : Lt ((255, 3, 0) :: ((255, 2, 0) :: ((255, 1, (-1)) :: ((255, 0, 0) :: WI)))) 263 → Lt ((141, 14, 255) :: ((255, 4, 256) :: (rws 256 6 ++ WR))) 263 → wr ((141, 14, 255) :: ((255, 4, 256) :: (rws 256 6 ++ WR))) 136 2 = 141 → PW X d (MF.take 239) mX4_init (MF.take 73) 50 [(2, 136), (0, 15)] [] (wr ((255, 3, 0) :: ((255, 2, 0) :: ((255, 1, (-1)) :: ((255, 0, 0) :: WI))))) (wr ((141, 14, 255) :: ((255, 4, 256) :: (rws 256 6 ++ WR)))) (MF.take 199) Q) : PW X d (MF.take 239) mX4_init (MF.take 73) 50 [(2, 136), (0, 14)] [] (wr WI) (wr WR) (MF.take 191) Q := by
  refine P_iload_n (n := 1) (q := 51) rfl rfl (by decide +kernel) ?_
  refine P_bipush (n := 20) (q := 53) rfl rfl (by decide +kernel) ?_
  refine P_icmp_ge (off := (22)) (t := 75) (q := 56) (by decide) rfl (by decide +kernel) (fun h => absurd h (by decide)) (fun _ => ?_)
  refine P_aload_n (n := 0) (q := 57) rfl rfl (by decide +kernel) ?_
  refine B_getfR fX4_22 (by decide +kernel) h1 (q := 60) rfl (by decide +kernel) ?_
  refine P_iload_n (n := 1) (q := 61) rfl rfl (by decide +kernel) ?_
  refine T_new (ci := 8) (N := 5) (c := 255) (n := 191) (q := 64) cOK8 (by decide +kernel) (tGp2 68 rfl rfl) (tGp1 116 rfl rfl) (tGp1 8 rfl rfl) (by decide +kernel) (by decide) (by decide) (hI.up (by decide)) (hR.up (by decide)) rfl (by decide +kernel) ?_
  refine P_dup (Nat.ne_of_beq_eq_false rfl) (q := 65) rfl (by decide +kernel) ?_
  refine T_ctor (ci := 8) (n' := 199) (d' := 1) (As := []) (q := 68) oX8_init rfl (by decide +kernel) (by decide) (Or.inr kX4_36) (by omega) (by decide) (by decide) (by decide) (n_State_255 (hI.up (by decide)) (hR.up (by decide))) rfl (by decide +kernel) ?_
  refine T_aast (by decide +kernel) (by decide +kernel) (by decide) (by decide +kernel) (q := 69) rfl (by decide +kernel) ?_
  refine P_iinc (n := 1) (a := 1) (x := 14) (by decide) rfl (q := 72) rfl (by decide +kernel) ?_
  refine P_goto (off := (-22)) (t := 50) (by decide) (by decide +kernel) ?_
  exact k (Lt.one (Lt.one (Lt.one (Lt.one (hI.up (by decide)) (by decide)) (by decide)) (by decide)) (by decide)) (Lt.one (Lt.one (Lt_rws (hR.up (by decide)) (by decide)) (by decide)) (by decide)) ((wr_o (by decide)).trans ((wr_o (by decide)).trans ((wr_r (by decide)).trans h1)))
theorem n_State_263 {X : CX} {WI WR : List (Int × Int × Int)} (hI : Lt WI 264) (hR : Lt WR 264) : Callee X 1 mX8_init (MF.take 200) (MF.take 207) [(2, 263)] (wr WI) (wr WR) (fun _ I' R' => I' = wr ((263, 3, 0) :: ((263, 2, 0) :: ((263, 1, (-1)) :: ((263, 0, 0) :: WI)))) ∧ R' = wr ((263, 4, 264) :: (rws 264 6 ++ WR))) := by
  have e : ((MF.take 200).length : Int) = 200 := by decide +kernel
  have h := i_State (X := X) (M := MF.take 200) (WI := WI) (WR := WR) (o := 263) (by decide +kernel) (by decide +kernel) (by rw [e]; exact hI.out) (by rw [e]; exact hR.out) (by rw [e]; decide)
  rw [e, show MF.take 200 ++ (15, 6) :: List.replicate 6 (12, 8) = MF.take 207 by decide +kernel] at h
  exact h
theorem G_Pa_50_15 {X : CX} {d : Nat} {WI WR : List (Int × Int × Int)} {Q : PV → PF → PF → Prop} (hd : 2 ≤ d) (hI : Lt WI 263) (hR : Lt WR 263) (h1 : wr WR 136 2 = 141) (k : Lt ((263, 3, 0) :: ((263, 2, 0) :: ((263, 1, (-1)) :: ((263, 0, 0) :: WI)))) 271 → Lt ((141, 15, 263) :: ((263, 4, 264) :: (rws 264 6 ++ WR))) 271 → wr ((141, 15, 263) :: ((263, 4, 264) :: (rws 264 6 ++ WR))) 136 2 = 141 → PW X d (MF.take 239) mX4_init (MF.take 73) 50 [(2, 136), (0, 16)] [] (wr ((263, 3, 0) :: ((263, 2, 0) :: ((263, 1, (-1)) :: ((263, 0, 0) :: WI))))) (wr ((141, 15, 263) :: ((263, 4, 264) :: (rws 264 6 ++ WR)))) (MF.take 207) Q) : PW X d (MF.take 239) mX4_init (MF.take 73) 50 [(2, 136), (0, 15)] [] (wr WI) (wr WR) (MF.take 199) Q := by
  refine P_iload_n (n := 1) (q := 51) rfl rfl (by decide +kernel) ?_
  refine P_bipush (n := 20) (q := 53) rfl rfl (by decide +kernel) ?_
  refine P_icmp_ge (off := (22)) (t := 75) (q := 56) (by decide) rfl (by decide +kernel) (fun h => absurd h (by decide)) (fun _ => ?_)
  refine P_aload_n (n := 0) (q := 57) rfl rfl (by decide +kernel) ?_
  refine B_getfR fX4_22 (by decide +kernel) h1 (q := 60) rfl (by decide +kernel) ?_
  refine P_iload_n (n := 1) (q := 61) rfl rfl (by decide +kernel) ?_
  refine T_new (ci := 8) (N := 5) (c := 263) (n := 199) (q := 64) cOK8 (by decide +kernel) (tGp2 68 rfl rfl) (tGp1 116 rfl rfl) (tGp1 8 rfl rfl) (by decide +kernel) (by decide) (by decide) (hI.up (by decide)) (hR.up (by decide)) rfl (by decide +kernel) ?_
  refine P_dup (Nat.ne_of_beq_eq_false rfl) (q := 65) rfl (by decide +kernel) ?_
  refine T_ctor (ci := 8) (n' := 207) (d' := 1) (As := []) (q := 68) oX8_init rfl (by decide +kernel) (by decide) (Or.inr kX4_36) (by omega) (by decide) (by decide) (by decide) (n_State_263 (hI.up (by decide)) (hR.up (by decide))) rfl (by decide +kernel) ?_
  refine T_aast (by decide +kernel) (by decide +kernel) (by decide) (by decide +kernel) (q := 69) rfl (by decide +kernel) ?_
  refine P_iinc (n := 1) (a := 1) (x := 15) (by decide) rfl (q := 72) rfl (by decide +kernel) ?_
  refine P_goto (off := (-22)) (t := 50) (by decide) (by decide +kernel) ?_
  exact k (Lt.one (Lt.one (Lt.one (Lt.one (hI.up (by decide)) (by decide)) (by decide)) (by decide)) (by decide)) (Lt.one (Lt.one (Lt_rws (hR.up (by decide)) (by decide)) (by decide)) (by decide)) ((wr_o (by decide)).trans ((wr_o (by decide)).trans ((wr_r (by decide)).trans h1)))
theorem n_State_271 {X : CX} {WI WR : List (Int × Int × Int)} (hI : Lt WI 272) (hR : Lt WR 272) : Callee X 1 mX8_init (MF.take 208) (MF.take 215) [(2, 271)] (wr WI) (wr WR) (fun _ I' R' => I' = wr ((271, 3, 0) :: ((271, 2, 0) :: ((271, 1, (-1)) :: ((271, 0, 0) :: WI)))) ∧ R' = wr ((271, 4, 272) :: (rws 272 6 ++ WR))) := by
  have e : ((MF.take 208).length : Int) = 208 := by decide +kernel
  have h := i_State (X := X) (M := MF.take 208) (WI := WI) (WR := WR) (o := 271) (by decide +kernel) (by decide +kernel) (by rw [e]; exact hI.out) (by rw [e]; exact hR.out) (by rw [e]; decide)
  rw [e, show MF.take 208 ++ (15, 6) :: List.replicate 6 (12, 8) = MF.take 215 by decide +kernel] at h
  exact h
theorem G_Pa_50_16 {X : CX} {d : Nat} {WI WR : List (Int × Int × Int)} {Q : PV → PF → PF → Prop} (hd : 2 ≤ d) (hI : Lt WI 271) (hR : Lt WR 271) (h1 : wr WR 136 2 = 141) (k : Lt ((271, 3, 0) :: ((271, 2, 0) :: ((271, 1, (-1)) :: ((271, 0, 0) :: WI)))) 279 → Lt ((141, 16, 271) :: ((271, 4, 272) :: (rws 272 6 ++ WR))) 279 → wr ((141, 16, 271) :: ((271, 4, 272) :: (rws 272 6 ++ WR))) 136 2 = 141 → PW X d (MF.take 239) mX4_init (MF.take 73) 50 [(2, 136), (0, 17)] [] (wr ((271, 3, 0) :: ((271, 2, 0) :: ((271, 1, (-1)) :: ((271, 0, 0) :: WI))))) (wr ((141, 16, 271) :: ((271, 4, 272) :: (rws 272 6 ++ WR)))) (MF.take 215) Q) : PW X d (MF.take 239) mX4_init (MF.take 73) 50 [(2, 136), (0, 16)] [] (wr WI) (wr WR) (MF.take 207) Q := by
  refine P_iload_n (n := 1) (q := 51) rfl rfl (by decide +kernel) ?_
  refine P_bipush (n := 20) (q := 53) rfl rfl (by decide +kernel) ?_
  refine P_icmp_ge (off := (22)) (t := 75) (q := 56) (by decide) rfl (by decide +kernel) (fun h => absurd h (by decide)) (fun _ => ?_)
  refine P_aload_n (n := 0) (q := 57) rfl rfl (by decide +kernel) ?_
  refine B_getfR fX4_22 (by decide +kernel) h1 (q := 60) rfl (by decide +kernel) ?_
  refine P_iload_n (n := 1) (q := 61) rfl rfl (by decide +kernel) ?_
  refine T_new (ci := 8) (N := 5) (c := 271) (n := 207) (q := 64) cOK8 (by decide +kernel) (tGp2 68 rfl rfl) (tGp1 116 rfl rfl) (tGp1 8 rfl rfl) (by decide +kernel) (by decide) (by decide) (hI.up (by decide)) (hR.up (by decide)) rfl (by decide +kernel) ?_
  refine P_dup (Nat.ne_of_beq_eq_false rfl) (q := 65) rfl (by decide +kernel) ?_
  refine T_ctor (ci := 8) (n' := 215) (d' := 1) (As := []) (q := 68) oX8_init rfl (by decide +kernel) (by decide) (Or.inr kX4_36) (by omega) (by decide) (by decide) (by decide) (n_State_271 (hI.up (by decide)) (hR.up (by decide))) rfl (by decide +kernel) ?_
  refine T_aast (by decide +kernel) (by decide +kernel) (by decide) (by decide +kernel) (q := 69) rfl (by decide +kernel) ?_
  refine P_iinc (n := 1) (a := 1) (x := 16) (by decide) rfl (q := 72) rfl (by decide +kernel) ?_
  refine P_goto (off := (-22)) (t := 50) (by decide) (by decide +kernel) ?_
  exact k (Lt.one (Lt.one (Lt.one (Lt.one (hI.up (by decide)) (by decide)) (by decide)) (by decide)) (by decide)) (Lt.one (Lt.one (Lt_rws (hR.up (by decide)) (by decide)) (by decide)) (by decide)) ((wr_o (by decide)).trans ((wr_o (by decide)).trans ((wr_r (by decide)).trans h1)))
theorem n_State_279 {X : CX} {WI WR : List (Int × Int × Int)} (hI : Lt WI 280) (hR : Lt WR 280) : Callee X 1 mX8_init (MF.take 216) (MF.take 223) [(2, 279)] (wr WI) (wr WR) (fun _ I' R' => I' = wr ((279, 3, 0) :: ((279, 2, 0) :: ((279, 1, (-1)) :: ((279, 0, 0) :: WI)))) ∧ R' = wr ((279, 4, 280) :: (rws 280 6 ++ WR))) := by
  have e : ((MF.take 216).length : Int) = 216 := by decide +kernel
  have h := i_State (X := X) (M := MF.take 216) (WI := WI) (WR := WR) (o := 279) (by decide +kernel) (by decide +kernel) (by rw [e]; exact hI.out) (by rw [e]; exact hR.out) (by rw [e]; decide)
  rw [e, show MF.take 216 ++ (15, 6) :: List.replicate 6 (12, 8) = MF.take 223 by decide +kernel] at h
  exact h
theorem G_Pa_50_17 {X : CX} {d : Nat} {WI WR : List (Int × Int × Int)} {Q : PV → PF → PF → Prop} (hd : 2 ≤ d) (hI : Lt WI 279) (hR : Lt WR 279) (h1 : wr WR 136 2 = 141) (k : Lt ((279, 3, 0) :: ((279, 2, 0) :: ((279, 1, (-1)) :: ((279, 0, 0) :: WI)))) 287 → Lt ((141, 17, 279) :: ((279, 4, 280) :: (rws 280 6 ++ WR))) 287 → wr ((141, 17, 279) :: ((279, 4, 280) :: (rws 280 6 ++ WR))) 136 2 = 141 → PW X d (MF.take 239) mX4_init (MF.take 73) 50 [(2, 136), (0, 18)] [] (wr ((279, 3, 0) :: ((279, 2, 0) :: ((279, 1, (-1)) :: ((279, 0, 0) :: WI))))) (wr ((141, 17, 279) :: ((279, 4, 280) :: (rws 280 6 ++ WR)))) (MF.take 223) Q) : PW X d (MF.take 239) mX4_init (MF.take 73) 50 [(2, 136), (0, 17)] [] (wr WI) (wr WR) (MF.take 215) Q := by
  refine P_iload_n (n := 1) (q := 51) rfl rfl (by decide +kernel) ?_
  refine P_bipush (n := 20) (q := 53) rfl rfl (by decide +kernel) ?_
  refine P_icmp_ge (off := (22)) (t := 75) (q := 56) (by decide) rfl (by decide +kernel) (fun h => absurd h (by decide)) (fun _ => ?_)
  refine P_aload_n (n := 0) (q := 57) rfl rfl (by decide +kernel) ?_
  refine B_getfR fX4_22 (by decide +kernel) h1 (q := 60) rfl (by decide +kernel) ?_
  refine P_iload_n (n := 1) (q := 61) rfl rfl (by decide +kernel) ?_
  refine T_new (ci := 8) (N := 5) (c := 279) (n := 215) (q := 64) cOK8 (by decide +kernel) (tGp2 68 rfl rfl) (tGp1 116 rfl rfl) (tGp1 8 rfl rfl) (by decide +kernel) (by decide) (by decide) (hI.up (by decide)) (hR.up (by decide)) rfl (by decide +kernel) ?_
  refine P_dup (Nat.ne_of_beq_eq_false rfl) (q := 65) rfl (by decide +kernel) ?_
  refine T_ctor (ci := 8) (n' := 223) (d' := 1) (As := []) (q := 68) oX8_init rfl (by decide +kernel) (by decide) (Or.inr kX4_36) (by omega) (by decide) (by decide) (by decide) (n_State_279 (hI.up (by decide)) (hR.up (by decide))) rfl (by decide +kernel) ?_
  refine T_aast (by decide +kernel) (by decide +kernel) (by decide) (by decide +kernel) (q := 69) rfl (by decide +kernel) ?_
  refine P_iinc (n := 1) (a := 1) (x := 17) (by decide) rfl (q := 72) rfl (by decide +kernel) ?_
  refine P_goto (off := (-22)) (t := 50) (by decide) (by decide +kernel) ?_
  exact k (Lt.one (Lt.one (Lt.one (Lt.one (hI.up (by decide)) (by decide)) (by decide)) (by decide)) (by decide)) (Lt.one (Lt.one (Lt_rws (hR.up (by decide)) (by decide)) (by decide)) (by decide)) ((wr_o (by decide)).trans ((wr_o (by decide)).trans ((wr_r (by decide)).trans h1)))
theorem n_State_287 {X : CX} {WI WR : List (Int × Int × Int)} (hI : Lt WI 288) (hR : Lt WR 288) : Callee X 1 mX8_init (MF.take 224) (MF.take 231) [(2, 287)] (wr WI) (wr WR) (fun _ I' R' => I' = wr ((287, 3, 0) :: ((287, 2, 0) :: ((287, 1, (-1)) :: ((287, 0, 0) :: WI)))) ∧ R' = wr ((287, 4, 288) :: (rws 288 6 ++ WR))) := by
  have e : ((MF.take 224).length : Int) = 224 := by decide +kernel
  have h := i_State (X := X) (M := MF.take 224) (WI := WI) (WR := WR) (o := 287) (by decide +kernel) (by decide +kernel) (by rw [e]; exact hI.out) (by rw [e]; exact hR.out) (by rw [e]; decide)
  rw [e, show MF.take 224 ++ (15, 6) :: List.replicate 6 (12, 8) = MF.take 231 by decide +kernel] at h
  exact h
theorem G_Pa_50_18 {X : CX} {d : Nat} {WI WR : List (Int × Int × Int)} {Q : PV → PF → PF → Prop} (hd : 2 ≤ d) (hI : Lt WI 287) (hR : Lt WR 287) (h1 : wr WR 136 2 = 141) (k : Lt ((287, 3, 0) :: ((287, 2, 0) :: ((287, 1, (-1)) :: ((287, 0, 0) :: WI)))) 295 → Lt ((141, 18, 287) :: ((287, 4, 288) :: (rws 288 6 ++ WR))) 295 → wr ((141, 18, 287) :: ((287, 4, 288) :: (rws 288 6 ++ WR))) 136 2 = 141 → PW X d (MF.take 239) mX4_init (MF.take 73) 50 [(2, 136), (0, 19)] [] (wr ((287, 3, 0) :: ((287, 2, 0) :: ((287, 1, (-1)) :: ((287, 0, 0) :: WI))))) (wr ((141, 18, 287) :: ((287, 4, 288) :: (rws 288 6 ++ WR)))) (MF.take 231) Q) : PW X d (MF.take 239) mX4_init (MF.take 73) 50 [(2, 136), (0, 18)] [] (wr WI) (wr WR) (MF.take 223) Q := by
  refine P_iload_n (n := 1) (q := 51) rfl rfl (by decide +kernel) ?_
  refine P_bipush (n := 20) (q := 53) rfl rfl (by decide +kernel) ?_
  refine P_icmp_ge (off := (22)) (t := 75) (q := 56) (by decide) rfl (by decide +kernel) (fun h => absurd h (by decide)) (fun _ => ?_)
  refine P_aload_n (n := 0) (q := 57) rfl rfl (by decide +kernel) ?_
  refine B_getfR fX4_22 (by decide +kernel) h1 (q := 60) rfl (by decide +kernel) ?_
  refine P_iload_n (n := 1) (q := 61) rfl rfl (by decide +kernel) ?_
  refine T_new (ci := 8) (N := 5) (c := 287) (n := 223) (q := 64) cOK8 (by decide +kernel) (tGp2 68 rfl rfl) (tGp1 116 rfl rfl) (tGp1 8 rfl rfl) (by decide +kernel) (by decide) (by decide) (hI.up (by decide)) (hR.up (by decide)) rfl (by decide +kernel) ?_
  refine P_dup (Nat.ne_of_beq_eq_false rfl) (q := 65) rfl (by decide +kernel) ?_
  refine T_ctor (ci := 8) (n' := 231) (d' := 1) (As := []) (q := 68) oX8_init rfl (by decide +kernel) (by decide) (Or.inr kX4_36) (by omega) (by decide) (by decide) (by decide) (n_State_287 (hI.up (by decide)) (hR.up (by decide))) rfl (by decide +kernel) ?_
  refine T_aast (by decide +kernel) (by decide +kernel) (by decide) (by decide +kernel) (q := 69) rfl (by decide +kernel) ?_
  refine P_iinc (n := 1) (a := 1) (x := 18) (by decide) rfl (q := 72) rfl (by decide +kernel) ?_
  refine P_goto (off := (-22)) (t := 50) (by decide) (by decide +kernel) ?_
  exact k (Lt.one (Lt.one (Lt.one (Lt.one (hI.up (by decide)) (by decide)) (by decide)) (by decide)) (by decide)) (Lt.one (Lt.one (Lt_rws (hR.up (by decide)) (by decide)) (by decide)) (by decide)) ((wr_o (by decide)).trans ((wr_o (by decide)).trans ((wr_r (by decide)).trans h1)))
theorem n_State_295 {X : CX} {WI WR : List (Int × Int × Int)} (hI : Lt WI 296) (hR : Lt WR 296) : Callee X 1 mX8_init (MF.take 232) (MF.take 239) [(2, 295)] (wr WI) (wr WR) (fun _ I' R' => I' = wr ((295, 3, 0) :: ((295, 2, 0) :: ((295, 1, (-1)) :: ((295, 0, 0) :: WI)))) ∧ R' = wr ((295, 4, 296) :: (rws 296 6 ++ WR))) := by
  have e : ((MF.take 232).length : Int) = 232 := by decide +kernel
  have h := i_State (X := X) (M := MF.take 232) (WI := WI) (WR := WR) (o := 295) (by decide +kernel) (by decide +kernel) (by rw [e]; exact hI.out) (by rw [e]; exact hR.out) (by rw [e]; decide)
  rw [e, show MF.take 232 ++ (15, 6) :: List.replicate 6 (12, 8) = MF.take 239 by decide +kernel] at h
  exact h
theorem G_Pa_50_19 {X : CX} {d : Nat} {WI WR : List (Int × Int × Int)} {Q : PV → PF → PF → Prop} (hd : 2 ≤ d) (hI : Lt WI 295) (hR : Lt WR 295) (h1 : wr WR 136 2 = 141) (k : Lt ((295, 3, 0) :: ((295, 2, 0) :: ((295, 1, (-1)) :: ((295, 0, 0) :: WI)))) 303 → Lt ((141, 19, 295) :: ((295, 4, 296) :: (rws 296 6 ++ WR))) 303 → wr ((141, 19, 295) :: ((295, 4, 296) :: (rws 296 6 ++ WR))) 136 2 = 141 → PW X d (MF.take 239) mX4_init (MF.take 73) 50 [(2, 136), (0, 20)] [] (wr ((295, 3, 0) :: ((295, 2, 0) :: ((295, 1, (-1)) :: ((295, 0, 0) :: WI))))) (wr ((141, 19, 295) :: ((295, 4, 296) :: (rws 296 6 ++ WR)))) (MF.take 239) Q) : PW X d (MF.take 239) mX4_init (MF.take 73) 50 [(2, 136), (0, 19)] [] (wr WI) (wr WR) (MF.take 231) Q := by
  refine P_iload_n (n := 1) (q := 51) rfl rfl (by decide +kernel) ?_
  refine P_bipush (n := 20) (q := 53) rfl rfl (by decide +kernel) ?_
  refine P_icmp_ge (off := (22)) (t := 75) (q := 56) (by decide) rfl (by decide +kernel) (fun h => absurd h (by decide)) (fun _ => ?_)
  refine P_aload_n (n := 0) (q := 57) rfl rfl (by decide +kernel) ?_
  refine B_getfR fX4_22 (by decide +kernel) h1 (q := 60) rfl (by decide +kernel) ?_
  refine P_iload_n (n := 1) (q := 61) rfl rfl (by decide +kernel) ?_
  refine T_new (ci := 8) (N := 5) (c := 295) (n := 231) (q := 64) cOK8 (by decide +kernel) (tGp2 68 rfl rfl) (tGp1 116 rfl rfl) (tGp1 8 rfl rfl) (by decide +kernel) (by decide) (by decide) (hI.up (by decide)) (hR.up (by decide)) rfl (by decide +kernel) ?_
  refine P_dup (Nat.ne_of_beq_eq_false rfl) (q := 65) rfl (by decide +kernel) ?_
  refine T_ctor (ci := 8) (n' := 239) (d' := 1) (As := []) (q := 68) oX8_init rfl (by decide +kernel) (by decide) (Or.inr kX4_36) (by omega) (by decide) (by decide) (by decide) (n_State_295 (hI.up (by decide)) (hR.up (by decide))) rfl (by decide +kernel) ?_
  refine T_aast (by decide +kernel) (by decide +kernel) (by decide) (by decide +kernel) (q := 69) rfl (by decide +kernel) ?_
  refine P_iinc (n := 1) (a := 1) (x := 19) (by decide) rfl (q := 72) rfl (by decide +kernel) ?_
  refine P_goto (off := (-22)) (t := 50) (by decide) (by decide +kernel) ?_
  exact k (Lt.one (Lt.one (Lt.one (Lt.one (hI.up (by decide)) (by decide)) (by decide)) (by decide)) (by decide)) (Lt.one (Lt.one (Lt_rws (hR.up (by decide)) (by decide)) (by decide)) (by decide)) ((wr_o (by decide)).trans ((wr_o (by decide)).trans ((wr_r (by decide)).trans h1)))
theorem G_Pa_50_20 {X : CX} {d : Nat} {WI WR : List (Int × Int × Int)} {Q : PV → PF → PF → Prop} (hd : 2 ≤ d) (hI : Lt WI 303) (hR : Lt WR 303) (k : Lt WI 303 → Lt WR 303 → PW X d (MF.take 239) mX4_init (MF.take 73) 75 [(2, 136), (0, 20)] [] (wr WI) (wr WR) (MF.take 239) Q) : PW X d (MF.take 239) mX4_init (MF.take 73) 50 [(2, 136), (0, 20)] [] (wr WI) (wr WR) (MF.take 239) Q := by
  refine P_iload_n (n := 1) (q := 51) rfl rfl (by decide +kernel) ?_
  refine P_bipush (n := 20) (q := 53) rfl rfl (by decide +kernel) ?_
  refine P_icmp_ge (off := (22)) (t := 75) (q := 56) (by decide) rfl (by decide +kernel) (fun _ => ?_) (fun h => absurd h (by decide))
  exact k (hI.up (by decide)) (hR.up (by decide))
def n_Past_136_I (W : List (Int × Int × Int)) : List (Int × Int × Int) := ((295, 3, 0) :: ((295, 2, 0) :: ((295, 1, (-1)) :: ((295, 0, 0) :: ((287, 3, 0) :: ((287, 2, 0) :: ((287, 1, (-1)) :: ((287, 0, 0) :: ((279, 3, 0) :: ((279, 2, 0) :: ((279, 1, (-1)) :: ((279, 0, 0) :: ((271, 3, 0) :: ((271, 2, 0) :: ((271, 1, (-1)) :: ((271, 0, 0) :: ((263, 3, 0) :: ((263, 2, 0) :: ((263, 1, (-1)) :: ((263, 0, 0) :: ((255, 3, 0) :: ((255, 2, 0) :: ((255, 1, (-1)) :: ((255, 0, 0) :: ((247, 3, 0) :: ((247, 2, 0) :: ((247, 1, (-1)) :: ((247, 0, 0) :: ((239, 3, 0) :: ((239, 2, 0) :: ((239, 1, (-1)) :: ((239, 0, 0) :: ((231, 3, 0) :: ((231, 2, 0) :: ((231, 1, (-1)) :: ((231, 0, 0) :: ((223, 3, 0) :: ((223, 2, 0) :: ((223, 1, (-1)) :: ((223, 0, 0) :: ((215, 3, 0) :: ((215, 2, 0) :: ((215, 1, (-1)) :: ((215, 0, 0) :: ((207, 3, 0) :: ((207, 2, 0) :: ((207, 1, (-1)) :: ((207, 0, 0) :: ((199, 3, 0) :: ((199, 2, 0) :: ((199, 1, (-1)) :: ((199, 0, 0) :: ((191, 3, 0) :: ((191, 2, 0) :: ((191, 1, (-1)) :: ((191, 0, 0) :: ((183, 3, 0) :: ((183, 2, 0) :: ((183, 1, (-1)) :: ((183, 0, 0) :: ((175, 3, 0) :: ((175, 2, 0) :: ((175, 1, (-1)) :: ((175, 0, 0) :: ((167, 3, 0) :: ((167, 2, 0) :: ((167, 1, (-1)) :: ((167, 0, 0) :: ((159, 3, 0) :: ((159, 2, 0) :: ((159, 1, (-1)) :: ((159, 0, 0) :: ((151, 3, 0) :: ((151, 2, 0) :: ((151, 1, (-1)) :: ((151, 0, 0) :: ((143, 3, 0) :: ((143, 2, 0) :: ((143, 1, (-1)) :: ((143, 0, 0) :: ((136, 5, 0) :: ((136, 4, 0) :: ((136, 1, 0) :: W)))))))))))))))))))))))))))))))))))))))))))))))))))))))))))))))))))))))))))))))))))
def n_Past_136_R (W : List (Int × Int × Int)) : List (Int × Int × Int) := ((141, 19, 295) :: ((295, 4, 296) :: (rws 296 6 ++ ((141, 18, 287) :: ((287, 4, 288) :: (rws 288 6 ++ ((141, 17, 279) :: ((279, 4, 280) :: (rws 280 6 ++ ((141, 16, 271) :: ((271, 4, 272) :: (rws 272 6 ++ ((141, 15, 263) :: ((263, 4, 264) :: (rws 264 6 ++ ((141, 14, 255) :: ((255, 4, 256) :: (rws 256 6 ++ ((141, 13, 247) :: ((247, 4, 248) :: (rws 248 6 ++ ((141, 12, 239) :: ((239, 4, 240) :: (rws 240 6 ++ ((141, 11, 231) :: ((231, 4, 232) :: (rws 232 6 ++ ((141, 10, 223) :: ((223, 4, 224) :: (rws 224 6 ++ ((141, 9, 215) :: ((215, 4, 216) :: (rws 216 6 ++ ((141, 8, 207) :: ((207, 4, 208) :: (rws 208 6 ++ ((141, 7, 199) :: ((199, 4, 200) :: (rws 200 6 ++ ((141, 6, 191) :: ((191, 4, 192) :: (rws 192 6 ++ ((141, 5, 183) :: ((183, 4, 184) :: (rws 184 6 ++ ((141, 4, 175) :: ((175, 4, 176) :: (rws 176 6 ++ ((141, 3, 167) :: ((167, 4, 168) :: (rws 168 6 ++ ((141, 2, 159) :: ((159, 4, 160) :: (rws 160 6 ++ ((141, 1, 151) :: ((151, 4, 152) :: (rws 152 6 ++ ((141, 0, 143) :: ((143, 4, 144) :: (rws 144 6 ++ ((136, 3, 142) :: ((136, 2, 141) :: ((136, 0, 137) :: (rws 137 3 ++ W))))))))))))))))))))))))))))))))))))))))))))))))))))))))))))))))
theorem n_Past_136 {X : CX} {WI WR : List (Int × Int × Int)} (hI : Lt WI 137) (hR : Lt WR 137) : Callee X 2 mX4_init (MF.take 73) (MF.take 239) [(2, 136)] (wr WI) (wr WR) (fun _ I' R' => I' = wr (n_Past_136_I WI) ∧ R' = wr (n_Past_136_R WR)) := by
  refine callee_b (by decide +kernel) (Nat.le_of_ble_eq_true rfl) rfl ?_
  refine G_Pa_0 (Nat.le_refl _) hI hR ?_
  clear hI hR
  intro hI hR
  refine G_Pa_16 (Nat.le_refl _) hI hR ?_
  clear hI hR
  intro hI hR
  refine G_Pa_21 (Nat.le_refl _) hI hR ?_
  clear hI hR
  intro hI hR
  refine G_Pa_30 (Nat.le_refl _) hI hR ?_
  clear hI hR
  intro hI hR
  refine G_Pa_38 (Nat.le_refl _) hI hR ?_
  clear hI hR
  intro hI hR
  refine G_Pa_43 (Nat.le_refl _) hI hR ?_
  clear hI hR
  intro hI hR
  refine G_Pa_50 (Nat.le_refl _) hI hR ((wr_j (by decide)).trans wr_at) ?_
  clear hI hR
  intro hI hR h1
  refine G_Pa_50_1 (Nat.le_refl _) hI hR h1 ?_
  clear hI hR h1
  intro hI hR h1
  refine G_Pa_50_2 (Nat.le_refl _) hI hR h1 ?_
  clear hI hR h1
  intro hI hR h1
  refine G_Pa_50_3 (Nat.le_refl _) hI hR h1 ?_
  clear hI hR h1
  intro hI hR h1
  refine G_Pa_50_4 (Nat.le_refl _) hI hR h1 ?_
  clear hI hR h1
  intro hI hR h1
  refine G_Pa_50_5 (Nat.le_refl _) hI hR h1 ?_
  clear hI hR h1
  intro hI hR h1
  refine G_Pa_50_6 (Nat.le_refl _) hI hR h1 ?_
  clear hI hR h1
  intro hI hR h1
  refine G_Pa_50_7 (Nat.le_refl _) hI hR h1 ?_
  clear hI hR h1
  intro hI hR h1
  refine G_Pa_50_8 (Nat.le_refl _) hI hR h1 ?_
  clear hI hR h1
  intro hI hR h1
  refine G_Pa_50_9 (Nat.le_refl _) hI hR h1 ?_
  clear hI hR h1
  intro hI hR h1
  refine G_Pa_50_10 (Nat.le_refl _) hI hR h1 ?_
  clear hI hR h1
  intro hI hR h1
  refine G_Pa_50_11 (Nat.le_refl _) hI hR h1 ?_
  clear hI hR h1
  intro hI hR h1
  refine G_Pa_50_12 (Nat.le_refl _) hI hR h1 ?_
  clear hI hR h1
  intro hI hR h1
  refine G_Pa_50_13 (Nat.le_refl _) hI hR h1 ?_
  clear hI hR h1
  intro hI hR h1
  refine G_Pa_50_14 (Nat.le_refl _) hI hR h1 ?_
  clear hI hR h1
  intro hI hR h1
  refine G_Pa_50_15 (Nat.le_refl _) hI hR h1 ?_
  clear hI hR h1
  intro hI hR h1
  refine G_Pa_50_16 (Nat.le_refl _) hI hR h1 ?_
  clear hI hR h1
  intro hI hR h1
  refine G_Pa_50_17 (Nat.le_refl _) hI hR h1 ?_
  clear hI hR h1
  intro hI hR h1
  refine G_Pa_50_18 (Nat.le_refl _) hI hR h1 ?_
  clear hI hR h1
  intro hI hR h1
  refine G_Pa_50_19 (Nat.le_refl _) hI hR h1 ?_
  clear hI hR h1
  intro hI hR h1
  refine G_Pa_50_20 (Nat.le_refl _) hI hR ?_
  clear hI hR
  intro hI hR
  exact P_vret rfl (by decide +kernel) ⟨rfl, rfl⟩
