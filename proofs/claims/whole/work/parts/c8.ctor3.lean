/-! ===== the other straight constructors ===== -/
theorem szM_1 (a b : Nat) : szM [(a, b)] = b := by simp [szM]
theorem wX5_45 : FW RX5 45 5 0 (.array .int) true := ⟨_, _, _, cOK5, by decide, rfl, rfl, Or.inl ⟨tGp1 34 rfl rfl, fun _ => rfl⟩⟩
theorem wX3_18 : FW RX3 18 3 0 (.object "NoonHat$Scan") true := ⟨_, _, _, cOK3, by decide, rfl, rfl, Or.inl ⟨tGp1 94 rfl rfl, fun _ => rfl⟩⟩
theorem wX7_9 : FW RX7 9 7 0 (.object "NoonHat$Scan") true := ⟨_, _, _, cOK7, by decide, rfl, rfl, Or.inl ⟨tGp1 230 rfl rfl, fun _ => rfl⟩⟩
theorem wX7_15 : FW RX7 15 7 1 (.object "NoonHat$FormulaReader") true := ⟨_, _, _, cOK7, by decide, rfl, rfl, Or.inl ⟨tGp1 231 rfl rfl, fun _ => rfl⟩⟩
theorem wX1_31 : FW RX1 31 1 8 (.array .int) true := ⟨_, _, _, cOK1, by decide, rfl, rfl, Or.inl ⟨tGp2 20 rfl rfl, fun _ => rfl⟩⟩
theorem wX1_35 : FW RX1 35 1 9 (.array .int) true := ⟨_, _, _, cOK1, by decide, rfl, rfl, Or.inl ⟨tGp2 21 rfl rfl, fun _ => rfl⟩⟩
theorem wX1_38 : FW RX1 38 1 10 (.array .int) true := ⟨_, _, _, cOK1, by decide, rfl, rfl, Or.inl ⟨tGp2 22 rfl rfl, fun _ => rfl⟩⟩
theorem wX1_41 : FW RX1 41 1 11 (.array .int) true := ⟨_, _, _, cOK1, by decide, rfl, rfl, Or.inl ⟨tGp2 23 rfl rfl, fun _ => rfl⟩⟩
theorem wX1_44 : FW RX1 44 1 12 (.array .int) true := ⟨_, _, _, cOK1, by decide, rfl, rfl, Or.inl ⟨tGp2 24 rfl rfl, fun _ => rfl⟩⟩
theorem wX1_47 : FW RX1 47 1 13 (.array .int) true := ⟨_, _, _, cOK1, by decide, rfl, rfl, Or.inl ⟨tGp2 25 rfl rfl, fun _ => rfl⟩⟩
theorem wX1_50 : FW RX1 50 1 14 (.array .int) true := ⟨_, _, _, cOK1, by decide, rfl, rfl, Or.inl ⟨tGp2 26 rfl rfl, fun _ => rfl⟩⟩
theorem wX1_53 : FW RX1 53 1 15 (.array .int) true := ⟨_, _, _, cOK1, by decide, rfl, rfl, Or.inl ⟨tGp2 27 rfl rfl, fun _ => rfl⟩⟩
theorem i_Scan {X : CX} {M : PM} {WI WR : List (Int × Int × Int)} {o a1 : Int} (ho0 : kd M o = 5) :
    Callee X 1 mX5_init M (M) [(2, o), (2, a1)] (wr WI) (wr WR) (fun _ I' R' => I' = wr ((o, 9, -1) :: (o, 8, 0) :: (o, 7, 0) :: (o, 5, 0) :: (o, 4, 0) :: (o, 3, 0) :: (o, 2, 0) :: (o, 1, 0) :: WI) ∧ R' = wr ((o, 0, a1) :: (o, 6, 1) :: WR)) := by
  refine callee_b (by decide +kernel) (Nat.le_of_ble_eq_true rfl) rfl ?_
  refine P_aload_n (n := 0) (q := 1) rfl rfl (by decide +kernel) ?_
  refine P_objInit (q := 4) ho0 (by decide) (tGp1 31 rfl rfl) (tGp1 24 rfl rfl) (tGp1 25 rfl rfl) (by decide) (by decide) rfl (by decide +kernel) ?_
  refine P_aload_n (n := 0) (q := 5) rfl rfl (by decide +kernel) ?_
  refine P_iconst (n := 0) (q := 6) rfl (by decide +kernel) ?_
  refine P_putI (q := 9) wX5_9 (fun h => by cases h) ho0 rfl (by decide +kernel) ?_
  rw [wr_u]
  refine P_aload_n (n := 0) (q := 10) rfl rfl (by decide +kernel) ?_
  refine P_iconst (n := 0) (q := 11) rfl (by decide +kernel) ?_
  refine P_putI (q := 14) wX5_15 (fun h => by cases h) ho0 rfl (by decide +kernel) ?_
  rw [wr_u]
  refine P_aload_n (n := 0) (q := 15) rfl rfl (by decide +kernel) ?_
  refine P_iconst (n := 0) (q := 16) rfl (by decide +kernel) ?_
  refine P_putI (q := 19) wX5_18 (fun h => by cases h) ho0 rfl (by decide +kernel) ?_
  rw [wr_u]
  refine P_aload_n (n := 0) (q := 20) rfl rfl (by decide +kernel) ?_
  refine P_iconst (n := 0) (q := 21) rfl (by decide +kernel) ?_
  refine P_putI (q := 24) wX5_21 (fun h => by cases h) ho0 rfl (by decide +kernel) ?_
  rw [wr_u]
  refine P_aload_n (n := 0) (q := 25) rfl rfl (by decide +kernel) ?_
  refine P_iconst (n := 0) (q := 26) rfl (by decide +kernel) ?_
  refine P_putI (q := 29) wX5_24 (fun h => by cases h) ho0 rfl (by decide +kernel) ?_
  rw [wr_u]
  refine P_aload_n (n := 0) (q := 30) rfl rfl (by decide +kernel) ?_
  refine P_gets (o := 1) (q := 33) (fun _ _ h => zW (i := 0) (by decide) h) ⟨by decide, by decide⟩ gX5_27 rfl (by decide +kernel) ?_
  refine P_putR (q := 36) wX5_33 rfl (fun h => by cases h) ho0 rfl (by decide +kernel) ?_
  rw [wr_u]
  refine P_aload_n (n := 0) (q := 37) rfl rfl (by decide +kernel) ?_
  refine P_iconst (n := 0) (q := 38) rfl (by decide +kernel) ?_
  refine P_putI (q := 41) wX5_36 (fun h => by cases h) ho0 rfl (by decide +kernel) ?_
  rw [wr_u]
  refine P_aload_n (n := 0) (q := 42) rfl rfl (by decide +kernel) ?_
  refine P_iconst (n := 0) (q := 43) rfl (by decide +kernel) ?_
  refine P_putI (q := 46) wX5_39 (fun h => by cases h) ho0 rfl (by decide +kernel) ?_
  rw [wr_u]
  refine P_aload_n (n := 0) (q := 47) rfl rfl (by decide +kernel) ?_
  refine P_iconst (n := -1) (q := 48) rfl (by decide +kernel) ?_
  refine P_putI (q := 51) wX5_42 (fun h => by cases h) ho0 rfl (by decide +kernel) ?_
  rw [wr_u]
  refine P_aload_n (n := 0) (q := 52) rfl rfl (by decide +kernel) ?_
  refine P_aload_n (n := 1) (q := 53) rfl rfl (by decide +kernel) ?_
  refine P_putR (q := 56) wX5_45 rfl (fun _ => rfl) ho0 rfl (by decide +kernel) ?_
  exact P_vret rfl (by decide +kernel) ⟨rfl, rfl⟩
theorem i_FormulaReader {X : CX} {M : PM} {WI WR : List (Int × Int × Int)} {o a1 a2 : Int} (ho0 : kd M o = 3) :
    Callee X 1 mX3_init M (M) [(2, o), (2, a1), (2, a2)] (wr WI) (wr WR) (fun _ I' R' => I' = wr ((o, 3, 0) :: (o, 2, 0) :: WI) ∧ R' = wr ((o, 1, a2) :: (o, 0, a1) :: WR)) := by
  refine callee_b (by decide +kernel) (Nat.le_of_ble_eq_true rfl) rfl ?_
  refine P_aload_n (n := 0) (q := 1) rfl rfl (by decide +kernel) ?_
  refine P_objInit (q := 4) ho0 (by decide) (tGp1 93 rfl rfl) (tGp1 24 rfl rfl) (tGp1 25 rfl rfl) (by decide) (by decide) rfl (by decide +kernel) ?_
  refine P_aload_n (n := 0) (q := 5) rfl rfl (by decide +kernel) ?_
  refine P_iconst (n := 0) (q := 6) rfl (by decide +kernel) ?_
  refine P_putI (q := 9) wX3_9 (fun h => by cases h) ho0 rfl (by decide +kernel) ?_
  rw [wr_u]
  refine P_aload_n (n := 0) (q := 10) rfl rfl (by decide +kernel) ?_
  refine P_iconst (n := 0) (q := 11) rfl (by decide +kernel) ?_
  refine P_putI (q := 14) wX3_15 (fun h => by cases h) ho0 rfl (by decide +kernel) ?_
  rw [wr_u]
  refine P_aload_n (n := 0) (q := 15) rfl rfl (by decide +kernel) ?_
  refine P_aload_n (n := 1) (q := 16) rfl rfl (by decide +kernel) ?_
  refine P_putR (q := 19) wX3_18 rfl (fun _ => rfl) ho0 rfl (by decide +kernel) ?_
  rw [wr_u]
  refine P_aload_n (n := 0) (q := 20) rfl rfl (by decide +kernel) ?_
  refine P_aload_n (n := 2) (q := 21) rfl rfl (by decide +kernel) ?_
  refine P_putR (q := 24) wX3_22 rfl (fun h => by cases h) ho0 rfl (by decide +kernel) ?_
  exact P_vret rfl (by decide +kernel) ⟨rfl, rfl⟩
theorem i_SquareReader {X : CX} {M : PM} {WI WR : List (Int × Int × Int)} {o a1 a2 a3 : Int} (ho0 : kd M o = 7) :
    Callee X 1 mX7_init M (M) [(2, o), (2, a1), (2, a2), (2, a3)] (wr WI) (wr WR) (fun _ I' R' => I' = wr (WI) ∧ R' = wr ((o, 2, a3) :: (o, 1, a2) :: (o, 0, a1) :: WR)) := by
  refine callee_b (by decide +kernel) (Nat.le_of_ble_eq_true rfl) rfl ?_
  refine P_aload_n (n := 0) (q := 1) rfl rfl (by decide +kernel) ?_
  refine P_objInit (q := 4) ho0 (by decide) (tGp1 229 rfl rfl) (tGp1 24 rfl rfl) (tGp1 25 rfl rfl) (by decide) (by decide) rfl (by decide +kernel) ?_
  refine P_aload_n (n := 0) (q := 5) rfl rfl (by decide +kernel) ?_
  refine P_aload_n (n := 1) (q := 6) rfl rfl (by decide +kernel) ?_
  refine P_putR (q := 9) wX7_9 rfl (fun _ => rfl) ho0 rfl (by decide +kernel) ?_
  rw [wr_u]
  refine P_aload_n (n := 0) (q := 10) rfl rfl (by decide +kernel) ?_
  refine P_aload_n (n := 2) (q := 11) rfl rfl (by decide +kernel) ?_
  refine P_putR (q := 14) wX7_15 rfl (fun _ => rfl) ho0 rfl (by decide +kernel) ?_
  rw [wr_u]
  refine P_aload_n (n := 0) (q := 15) rfl rfl (by decide +kernel) ?_
  refine P_aload_n (n := 3) (q := 16) rfl rfl (by decide +kernel) ?_
  refine P_putR (q := 19) wX7_19 rfl (fun h => by cases h) ho0 rfl (by decide +kernel) ?_
  exact P_vret rfl (by decide +kernel) ⟨rfl, rfl⟩
theorem i_Flight {X : CX} {M : PM} {WI WR : List (Int × Int × Int)} {o a1 a2 : Int} (ho0 : kd M o = 1) (hI : ∀ w, w ∈ WI → ¬ (64 + (M.length : Int) ≤ w.1 ∧ w.1 ≤ 64 + (M.length : Int) + 8)) (hR : ∀ w, w ∈ WR → ¬ (64 + (M.length : Int) ≤ w.1 ∧ w.1 ≤ 64 + (M.length : Int) + 8)) (hlt : o < 64 + (M.length : Int)) :
    Callee X 1 mX1_init M (M ++ [(12, 6)] ++ [(12, 6)] ++ [(12, 81)] ++ [(12, 13)] ++ [(12, 10)] ++ [(12, 60)] ++ [(12, 81)] ++ [(12, 6)]) [(2, o), (2, a1), (2, a2)] (wr WI) (wr WR) (fun _ I' R' => I' = wr ((o, 7, -1) :: (o, 6, 0) :: (o, 5, 0) :: (o, 4, 0) :: (o, 3, 0) :: WI) ∧ R' = wr ((o, 1, a2) :: (o, 0, a1) :: (o, 15, (64 + ((M.length : Int) + 7))) :: (o, 14, (64 + ((M.length : Int) + 6))) :: (o, 13, (64 + ((M.length : Int) + 5))) :: (o, 12, (64 + ((M.length : Int) + 4))) :: (o, 11, (64 + ((M.length : Int) + 3))) :: (o, 10, (64 + ((M.length : Int) + 2))) :: (o, 9, (64 + ((M.length : Int) + 1))) :: (o, 8, (64 + (M.length : Int))) :: (o, 2, 0) :: WR)) := by
  refine callee_b (by decide +kernel) (Nat.le_of_ble_eq_true rfl) rfl ?_
  have ho1 : kd (M ++ [(12, 6)]) o = 1 := kd_app ho0 (by decide)
  have l1 : (((M ++ [(12, 6)] : PM).length : Nat) : Int) = (M.length : Int) + 1 := by simp only [List.length_append, List.length_singleton]; omega
  have ho2 : kd (M ++ [(12, 6)] ++ [(12, 6)]) o = 1 := kd_app ho1 (by decide)
  have l2 : (((M ++ [(12, 6)] ++ [(12, 6)] : PM).length : Nat) : Int) = (M.length : Int) + 2 := by simp only [List.length_append, List.length_singleton]; omega
  have ho3 : kd (M ++ [(12, 6)] ++ [(12, 6)] ++ [(12, 81)]) o = 1 := kd_app ho2 (by decide)
  have l3 : (((M ++ [(12, 6)] ++ [(12, 6)] ++ [(12, 81)] : PM).length : Nat) : Int) = (M.length : Int) + 3 := by simp only [List.length_append, List.length_singleton]; omega
  have ho4 : kd (M ++ [(12, 6)] ++ [(12, 6)] ++ [(12, 81)] ++ [(12, 13)]) o = 1 := kd_app ho3 (by decide)
  have l4 : (((M ++ [(12, 6)] ++ [(12, 6)] ++ [(12, 81)] ++ [(12, 13)] : PM).length : Nat) : Int) = (M.length : Int) + 4 := by simp only [List.length_append, List.length_singleton]; omega
  have ho5 : kd (M ++ [(12, 6)] ++ [(12, 6)] ++ [(12, 81)] ++ [(12, 13)] ++ [(12, 10)]) o = 1 := kd_app ho4 (by decide)
  have l5 : (((M ++ [(12, 6)] ++ [(12, 6)] ++ [(12, 81)] ++ [(12, 13)] ++ [(12, 10)] : PM).length : Nat) : Int) = (M.length : Int) + 5 := by simp only [List.length_append, List.length_singleton]; omega
  have ho6 : kd (M ++ [(12, 6)] ++ [(12, 6)] ++ [(12, 81)] ++ [(12, 13)] ++ [(12, 10)] ++ [(12, 60)]) o = 1 := kd_app ho5 (by decide)
  have l6 : (((M ++ [(12, 6)] ++ [(12, 6)] ++ [(12, 81)] ++ [(12, 13)] ++ [(12, 10)] ++ [(12, 60)] : PM).length : Nat) : Int) = (M.length : Int) + 6 := by simp only [List.length_append, List.length_singleton]; omega
  have ho7 : kd (M ++ [(12, 6)] ++ [(12, 6)] ++ [(12, 81)] ++ [(12, 13)] ++ [(12, 10)] ++ [(12, 60)] ++ [(12, 81)]) o = 1 := kd_app ho6 (by decide)
  have l7 : (((M ++ [(12, 6)] ++ [(12, 6)] ++ [(12, 81)] ++ [(12, 13)] ++ [(12, 10)] ++ [(12, 60)] ++ [(12, 81)] : PM).length : Nat) : Int) = (M.length : Int) + 7 := by simp only [List.length_append, List.length_singleton]; omega
  have ho8 : kd (M ++ [(12, 6)] ++ [(12, 6)] ++ [(12, 81)] ++ [(12, 13)] ++ [(12, 10)] ++ [(12, 60)] ++ [(12, 81)] ++ [(12, 6)]) o = 1 := kd_app ho7 (by decide)
  refine P_aload_n (n := 0) (q := 1) rfl rfl (by decide +kernel) ?_
  refine P_objInit (q := 4) ho0 (by decide) (tGp2 7 rfl rfl) (tGp1 24 rfl rfl) (tGp1 25 rfl rfl) (by decide) (by decide) rfl (by decide +kernel) ?_
  refine P_aload_n (n := 0) (q := 5) rfl rfl (by decide +kernel) ?_
  refine P_anull (q := 6) rfl (by decide +kernel) ?_
  refine P_putR (q := 9) wX1_9 rfl (fun h => by cases h) ho0 rfl (by decide +kernel) ?_
  rw [wr_u]
  refine P_aload_n (n := 0) (q := 10) rfl rfl (by decide +kernel) ?_
  refine P_iconst (n := 0) (q := 11) rfl (by decide +kernel) ?_
  refine P_putI (q := 14) wX1_15 (fun h => by cases h) ho0 rfl (by decide +kernel) ?_
  rw [wr_u]
  refine P_aload_n (n := 0) (q := 15) rfl rfl (by decide +kernel) ?_
  refine P_iconst (n := 0) (q := 16) rfl (by decide +kernel) ?_
  refine P_putI (q := 19) wX1_19 (fun h => by cases h) ho0 rfl (by decide +kernel) ?_
  rw [wr_u]
  refine P_aload_n (n := 0) (q := 20) rfl rfl (by decide +kernel) ?_
  refine P_iconst (n := 0) (q := 21) rfl (by decide +kernel) ?_
  refine P_putI (q := 24) wX1_22 (fun h => by cases h) ho0 rfl (by decide +kernel) ?_
  rw [wr_u]
  refine P_aload_n (n := 0) (q := 25) rfl rfl (by decide +kernel) ?_
  refine P_iconst (n := 0) (q := 26) rfl (by decide +kernel) ?_
  refine P_putI (q := 29) wX1_25 (fun h => by cases h) ho0 rfl (by decide +kernel) ?_
  rw [wr_u]
  refine P_aload_n (n := 0) (q := 30) rfl rfl (by decide +kernel) ?_
  refine P_iconst (n := -1) (q := 31) rfl (by decide +kernel) ?_
  refine P_putI (q := 34) wX1_28 (fun h => by cases h) ho0 rfl (by decide +kernel) ?_
  rw [wr_u]
  refine P_aload_n (n := 0) (q := 35) rfl rfl (by decide +kernel) ?_
  refine P_bipush (n := 6) (q := 37) rfl rfl (by decide +kernel) ?_
  refine P_newarr (at0 := .int) (ty := .int) (t0 := 0) (kind := 12) (q := 39) rfl (tGp1 71 rfl rfl) rfl (fun _ h => by cases h) nc12 (by decide) (by decide) ⟨by simp, by rw [show (w32 6).toNat = 6 by decide]; simp only [szM_app, szM_1]; omega⟩ rfl (by decide +kernel) ?_
  rw [show (w32 6).toNat = 6 by decide, wr_z1 (List.forall_mem_cons.mpr ⟨(by show o ≠ _; omega), (List.forall_mem_cons.mpr ⟨(by show o ≠ _; omega), (List.forall_mem_cons.mpr ⟨(by show o ≠ _; omega), (List.forall_mem_cons.mpr ⟨(by show o ≠ _; omega), (List.forall_mem_cons.mpr ⟨(by show o ≠ _; omega), (fun w hw e => hI w hw (by omega))⟩)⟩)⟩)⟩)⟩), wr_z1 (List.forall_mem_cons.mpr ⟨(by show o ≠ _; omega), (fun w hw e => hR w hw (by omega))⟩)]
  refine P_putR (q := 42) wX1_31 rfl (fun _ => rfl) ho1 rfl (by decide +kernel) ?_
  rw [wr_u]
  refine P_aload_n (n := 0) (q := 43) rfl rfl (by decide +kernel) ?_
  refine P_bipush (n := 6) (q := 45) rfl rfl (by decide +kernel) ?_
  refine P_newarr (at0 := .int) (ty := .int) (t0 := 0) (kind := 12) (q := 47) rfl (tGp1 71 rfl rfl) rfl (fun _ h => by cases h) nc12 (by decide) (by decide) ⟨by simp, by rw [show (w32 6).toNat = 6 by decide]; simp only [szM_app, szM_1]; omega⟩ rfl (by decide +kernel) ?_
  rw [show (w32 6).toNat = 6 by decide, l1, wr_z1 (List.forall_mem_cons.mpr ⟨(by show o ≠ _; omega), (List.forall_mem_cons.mpr ⟨(by show o ≠ _; omega), (List.forall_mem_cons.mpr ⟨(by show o ≠ _; omega), (List.forall_mem_cons.mpr ⟨(by show o ≠ _; omega), (List.forall_mem_cons.mpr ⟨(by show o ≠ _; omega), (fun w hw e => hI w hw (by omega))⟩)⟩)⟩)⟩)⟩), wr_z1 (List.forall_mem_cons.mpr ⟨(by show o ≠ _; omega), (List.forall_mem_cons.mpr ⟨(by show o ≠ _; omega), (fun w hw e => hR w hw (by omega))⟩)⟩)]
  refine P_putR (q := 50) wX1_35 rfl (fun _ => rfl) ho2 rfl (by decide +kernel) ?_
  rw [wr_u]
  refine P_aload_n (n := 0) (q := 51) rfl rfl (by decide +kernel) ?_
  refine P_bipush (n := 81) (q := 53) rfl rfl (by decide +kernel) ?_
  refine P_newarr (at0 := .int) (ty := .int) (t0 := 0) (kind := 12) (q := 55) rfl (tGp1 71 rfl rfl) rfl (fun _ h => by cases h) nc12 (by decide) (by decide) ⟨by simp, by rw [show (w32 81).toNat = 81 by decide]; simp only [szM_app, szM_1]; omega⟩ rfl (by decide +kernel) ?_
  rw [show (w32 81).toNat = 81 by decide, l2, wr_z1 (List.forall_mem_cons.mpr ⟨(by show o ≠ _; omega), (List.forall_mem_cons.mpr ⟨(by show o ≠ _; omega), (List.forall_mem_cons.mpr ⟨(by show o ≠ _; omega), (List.forall_mem_cons.mpr ⟨(by show o ≠ _; omega), (List.forall_mem_cons.mpr ⟨(by show o ≠ _; omega), (fun w hw e => hI w hw (by omega))⟩)⟩)⟩)⟩)⟩), wr_z1 (List.forall_mem_cons.mpr ⟨(by show o ≠ _; omega), (List.forall_mem_cons.mpr ⟨(by show o ≠ _; omega), (List.forall_mem_cons.mpr ⟨(by show o ≠ _; omega), (fun w hw e => hR w hw (by omega))⟩)⟩)⟩)]
  refine P_putR (q := 58) wX1_38 rfl (fun _ => rfl) ho3 rfl (by decide +kernel) ?_
  rw [wr_u]
  refine P_aload_n (n := 0) (q := 59) rfl rfl (by decide +kernel) ?_
  refine P_bipush (n := 13) (q := 61) rfl rfl (by decide +kernel) ?_
  refine P_newarr (at0 := .int) (ty := .int) (t0 := 0) (kind := 12) (q := 63) rfl (tGp1 71 rfl rfl) rfl (fun _ h => by cases h) nc12 (by decide) (by decide) ⟨by simp, by rw [show (w32 13).toNat = 13 by decide]; simp only [szM_app, szM_1]; omega⟩ rfl (by decide +kernel) ?_
  rw [show (w32 13).toNat = 13 by decide, l3, wr_z1 (List.forall_mem_cons.mpr ⟨(by show o ≠ _; omega), (List.forall_mem_cons.mpr ⟨(by show o ≠ _; omega), (List.forall_mem_cons.mpr ⟨(by show o ≠ _; omega), (List.forall_mem_cons.mpr ⟨(by show o ≠ _; omega), (List.forall_mem_cons.mpr ⟨(by show o ≠ _; omega), (fun w hw e => hI w hw (by omega))⟩)⟩)⟩)⟩)⟩), wr_z1 (List.forall_mem_cons.mpr ⟨(by show o ≠ _; omega), (List.forall_mem_cons.mpr ⟨(by show o ≠ _; omega), (List.forall_mem_cons.mpr ⟨(by show o ≠ _; omega), (List.forall_mem_cons.mpr ⟨(by show o ≠ _; omega), (fun w hw e => hR w hw (by omega))⟩)⟩)⟩)⟩)]
  refine P_putR (q := 66) wX1_41 rfl (fun _ => rfl) ho4 rfl (by decide +kernel) ?_
  rw [wr_u]
  refine P_aload_n (n := 0) (q := 67) rfl rfl (by decide +kernel) ?_
  refine P_bipush (n := 10) (q := 69) rfl rfl (by decide +kernel) ?_
  refine P_newarr (at0 := .int) (ty := .int) (t0 := 0) (kind := 12) (q := 71) rfl (tGp1 71 rfl rfl) rfl (fun _ h => by cases h) nc12 (by decide) (by decide) ⟨by simp, by rw [show (w32 10).toNat = 10 by decide]; simp only [szM_app, szM_1]; omega⟩ rfl (by decide +kernel) ?_
  rw [show (w32 10).toNat = 10 by decide, l4, wr_z1 (List.forall_mem_cons.mpr ⟨(by show o ≠ _; omega), (List.forall_mem_cons.mpr ⟨(by show o ≠ _; omega), (List.forall_mem_cons.mpr ⟨(by show o ≠ _; omega), (List.forall_mem_cons.mpr ⟨(by show o ≠ _; omega), (List.forall_mem_cons.mpr ⟨(by show o ≠ _; omega), (fun w hw e => hI w hw (by omega))⟩)⟩)⟩)⟩)⟩), wr_z1 (List.forall_mem_cons.mpr ⟨(by show o ≠ _; omega), (List.forall_mem_cons.mpr ⟨(by show o ≠ _; omega), (List.forall_mem_cons.mpr ⟨(by show o ≠ _; omega), (List.forall_mem_cons.mpr ⟨(by show o ≠ _; omega), (List.forall_mem_cons.mpr ⟨(by show o ≠ _; omega), (fun w hw e => hR w hw (by omega))⟩)⟩)⟩)⟩)⟩)]
  refine P_putR (q := 74) wX1_44 rfl (fun _ => rfl) ho5 rfl (by decide +kernel) ?_
  rw [wr_u]
  refine P_aload_n (n := 0) (q := 75) rfl rfl (by decide +kernel) ?_
  refine P_bipush (n := 60) (q := 77) rfl rfl (by decide +kernel) ?_
  refine P_newarr (at0 := .int) (ty := .int) (t0 := 0) (kind := 12) (q := 79) rfl (tGp1 71 rfl rfl) rfl (fun _ h => by cases h) nc12 (by decide) (by decide) ⟨by simp, by rw [show (w32 60).toNat = 60 by decide]; simp only [szM_app, szM_1]; omega⟩ rfl (by decide +kernel) ?_
  rw [show (w32 60).toNat = 60 by decide, l5, wr_z1 (List.forall_mem_cons.mpr ⟨(by show o ≠ _; omega), (List.forall_mem_cons.mpr ⟨(by show o ≠ _; omega), (List.forall_mem_cons.mpr ⟨(by show o ≠ _; omega), (List.forall_mem_cons.mpr ⟨(by show o ≠ _; omega), (List.forall_mem_cons.mpr ⟨(by show o ≠ _; omega), (fun w hw e => hI w hw (by omega))⟩)⟩)⟩)⟩)⟩), wr_z1 (List.forall_mem_cons.mpr ⟨(by show o ≠ _; omega), (List.forall_mem_cons.mpr ⟨(by show o ≠ _; omega), (List.forall_mem_cons.mpr ⟨(by show o ≠ _; omega), (List.forall_mem_cons.mpr ⟨(by show o ≠ _; omega), (List.forall_mem_cons.mpr ⟨(by show o ≠ _; omega), (List.forall_mem_cons.mpr ⟨(by show o ≠ _; omega), (fun w hw e => hR w hw (by omega))⟩)⟩)⟩)⟩)⟩)⟩)]
  refine P_putR (q := 82) wX1_47 rfl (fun _ => rfl) ho6 rfl (by decide +kernel) ?_
  rw [wr_u]
  refine P_aload_n (n := 0) (q := 83) rfl rfl (by decide +kernel) ?_
  refine P_bipush (n := 81) (q := 85) rfl rfl (by decide +kernel) ?_
  refine P_newarr (at0 := .int) (ty := .int) (t0 := 0) (kind := 12) (q := 87) rfl (tGp1 71 rfl rfl) rfl (fun _ h => by cases h) nc12 (by decide) (by decide) ⟨by simp, by rw [show (w32 81).toNat = 81 by decide]; simp only [szM_app, szM_1]; omega⟩ rfl (by decide +kernel) ?_
  rw [show (w32 81).toNat = 81 by decide, l6, wr_z1 (List.forall_mem_cons.mpr ⟨(by show o ≠ _; omega), (List.forall_mem_cons.mpr ⟨(by show o ≠ _; omega), (List.forall_mem_cons.mpr ⟨(by show o ≠ _; omega), (List.forall_mem_cons.mpr ⟨(by show o ≠ _; omega), (List.forall_mem_cons.mpr ⟨(by show o ≠ _; omega), (fun w hw e => hI w hw (by omega))⟩)⟩)⟩)⟩)⟩), wr_z1 (List.forall_mem_cons.mpr ⟨(by show o ≠ _; omega), (List.forall_mem_cons.mpr ⟨(by show o ≠ _; omega), (List.forall_mem_cons.mpr ⟨(by show o ≠ _; omega), (List.forall_mem_cons.mpr ⟨(by show o ≠ _; omega), (List.forall_mem_cons.mpr ⟨(by show o ≠ _; omega), (List.forall_mem_cons.mpr ⟨(by show o ≠ _; omega), (List.forall_mem_cons.mpr ⟨(by show o ≠ _; omega), (fun w hw e => hR w hw (by omega))⟩)⟩)⟩)⟩)⟩)⟩)⟩)]
  refine P_putR (q := 90) wX1_50 rfl (fun _ => rfl) ho7 rfl (by decide +kernel) ?_
  rw [wr_u]
  refine P_aload_n (n := 0) (q := 91) rfl rfl (by decide +kernel) ?_
  refine P_bipush (n := 6) (q := 93) rfl rfl (by decide +kernel) ?_
  refine P_newarr (at0 := .int) (ty := .int) (t0 := 0) (kind := 12) (q := 95) rfl (tGp1 71 rfl rfl) rfl (fun _ h => by cases h) nc12 (by decide) (by decide) ⟨by simp, by rw [show (w32 6).toNat = 6 by decide]; simp only [szM_app, szM_1]; omega⟩ rfl (by decide +kernel) ?_
  rw [show (w32 6).toNat = 6 by decide, l7, wr_z1 (List.forall_mem_cons.mpr ⟨(by show o ≠ _; omega), (List.forall_mem_cons.mpr ⟨(by show o ≠ _; omega), (List.forall_mem_cons.mpr ⟨(by show o ≠ _; omega), (List.forall_mem_cons.mpr ⟨(by show o ≠ _; omega), (List.forall_mem_cons.mpr ⟨(by show o ≠ _; omega), (fun w hw e => hI w hw (by omega))⟩)⟩)⟩)⟩)⟩), wr_z1 (List.forall_mem_cons.mpr ⟨(by show o ≠ _; omega), (List.forall_mem_cons.mpr ⟨(by show o ≠ _; omega), (List.forall_mem_cons.mpr ⟨(by show o ≠ _; omega), (List.forall_mem_cons.mpr ⟨(by show o ≠ _; omega), (List.forall_mem_cons.mpr ⟨(by show o ≠ _; omega), (List.forall_mem_cons.mpr ⟨(by show o ≠ _; omega), (List.forall_mem_cons.mpr ⟨(by show o ≠ _; omega), (List.forall_mem_cons.mpr ⟨(by show o ≠ _; omega), (fun w hw e => hR w hw (by omega))⟩)⟩)⟩)⟩)⟩)⟩)⟩)⟩)]
  refine P_putR (q := 98) wX1_53 rfl (fun _ => rfl) ho8 rfl (by decide +kernel) ?_
  rw [wr_u]
  refine P_aload_n (n := 0) (q := 99) rfl rfl (by decide +kernel) ?_
  refine P_aload_n (n := 1) (q := 100) rfl rfl (by decide +kernel) ?_
  refine P_putR (q := 103) wX1_56 rfl (fun h => by cases h) ho8 rfl (by decide +kernel) ?_
  rw [wr_u]
  refine P_aload_n (n := 0) (q := 104) rfl rfl (by decide +kernel) ?_
  refine P_aload_n (n := 2) (q := 105) rfl rfl (by decide +kernel) ?_
  refine P_putR (q := 108) wX1_60 rfl (fun h => by cases h) ho8 rfl (by decide +kernel) ?_
  exact P_vret rfl (by decide +kernel) ⟨rfl, rfl⟩
