/-! ===== Dice, Formula ===== -/
theorem kd_app {M N : PM} {o : Int} {c : Nat} (h : kd M o = c) (hc : c < 20) : kd (M ++ N) o = c := by
  obtain ⟨k, rfl, hk, he⟩ := kd_in h hc
  unfold kd
  rw [if_neg (by omega), show (64 + (k : Int) - 64).toNat = k by omega, List.getElem?_append_left hk, he]
theorem wX2_9' : FW RX2 9 2 0 (.array .int) true := ⟨_, _, _, cOK2, by decide, rfl, rfl, Or.inl ⟨tGp1 78 rfl rfl, fun _ => rfl⟩⟩
theorem wX2_15' : FW RX2 15 2 1 (.array .int) true := ⟨_, _, _, cOK2, by decide, rfl, rfl, Or.inl ⟨tGp1 79 rfl rfl, fun _ => rfl⟩⟩
theorem wX2_18' : FW RX2 18 2 2 .int false := ⟨_, _, _, cOK2, by decide, rfl, rfl, Or.inl ⟨tGp1 80 rfl rfl, fun _ => rfl⟩⟩
theorem wX0_7' : FW RX0 7 0 0 .long false := ⟨_, _, _, cOK0, by decide, rfl, rfl, Or.inl ⟨tGp2 97 rfl rfl, fun _ => rfl⟩⟩
theorem wX0_13' : FW RX0 13 0 1 .int false := ⟨_, _, _, cOK0, by decide, rfl, rfl, Or.inl ⟨tGp2 99 rfl rfl, fun _ => rfl⟩⟩
theorem i_Dice {X : CX} {M : PM} {WI WR : List (Int × Int × Int)} {o : Int} (ho : kd M o = 0) :
    Callee X 1 mX0_init M M [(2, o)] (wr WI) (wr WR) (fun _ I' R' => I' = wr ((o, 1, 0) :: (o, 0, 1) :: WI) ∧ R' = wr WR) := by
  refine callee_b (by decide +kernel) (Nat.le_of_ble_eq_true rfl) rfl ?_
  refine P_aload_n (n := 0) (q := 1) rfl rfl (by decide +kernel) ?_
  refine P_objInit (q := 4) ho (by decide) (tGp2 96 rfl rfl) (tGp1 24 rfl rfl) (tGp1 25 rfl rfl) (by decide) (by decide) rfl (by decide +kernel) ?_
  refine P_aload_n (n := 0) (q := 5) rfl rfl (by decide +kernel) ?_
  refine P_lconst (n := 1) (x := 1) (q := 6) rfl rfl (by decide +kernel) ?_
  refine P_putL (q := 9) wX0_7' (fun h => by cases h) ho rfl (by decide +kernel) ?_
  refine P_aload_n (n := 0) (q := 10) rfl rfl (by decide +kernel) ?_
  refine P_iconst (n := 0) (q := 11) rfl (by decide +kernel) ?_
  refine P_putI (q := 14) wX0_13' (fun h => by cases h) ho rfl (by decide +kernel) ?_
  exact P_vret rfl (by decide +kernel) ⟨rfl, rfl⟩
theorem i_Formula {X : CX} {M : PM} {WI WR : List (Int × Int × Int)} {o : Int} (ho : kd M o = 2) (hI : ∀ w, w ∈ WI → ¬ (64 + (M.length : Int) ≤ w.1 ∧ w.1 ≤ 64 + (M.length : Int) + 1)) (hR : ∀ w, w ∈ WR → ¬ (64 + (M.length : Int) ≤ w.1 ∧ w.1 ≤ 64 + (M.length : Int) + 1)) (hlt : o < 64 + (M.length : Int)) :
    Callee X 1 mX2_init M (M ++ [(12, 1600)] ++ [(12, 64)]) [(2, o)] (wr WI) (wr WR) (fun _ I' R' => I' = wr ((o, 2, 0) :: WI) ∧ R' = wr ((o, 1, 64 + (M.length : Int) + 1) :: (o, 0, 64 + (M.length : Int)) :: WR)) := by
  refine callee_b (by decide +kernel) (Nat.le_of_ble_eq_true rfl) rfl ?_
  have ho1 : kd (M ++ [(12, 1600)]) o = 2 := kd_app ho (by decide)
  have ho2 : kd (M ++ [(12, 1600)] ++ [(12, 64)]) o = 2 := kd_app ho1 (by decide)
  have l1 : ((M ++ [((12 : Nat), (1600 : Nat))]).length : Int) = (M.length : Int) + 1 := by simp
  refine P_aload_n (n := 0) (q := 1) rfl rfl (by decide +kernel) ?_
  refine P_objInit (q := 4) ho (by decide) (tGp1 77 rfl rfl) (tGp1 24 rfl rfl) (tGp1 25 rfl rfl) (by decide) (by decide) rfl (by decide +kernel) ?_
  refine P_aload_n (n := 0) (q := 5) rfl rfl (by decide +kernel) ?_
  refine P_sipush (n := 1600) (q := 8) rfl rfl (by decide +kernel) ?_
  refine P_newarr (at0 := .int) (ty := .int) (t0 := 0) (kind := 12) (q := 10) rfl (tGp1 71 rfl rfl) rfl (fun _ h => by cases h) nc12 (by decide) (by decide) ⟨by simp, by rw [szM_app, szM_app]; show szM M + 1600 ≤ szM M + 1600 + 64; omega⟩ rfl (by decide +kernel) ?_
  rw [show (w32 1600).toNat = 1600 by decide, wr_z1 (fun w hw e => hI w hw (by omega)), wr_z1 (fun w hw e => hR w hw (by omega))]
  refine P_putR (q := 13) wX2_9' rfl (fun _ => rfl) ho1 rfl (by decide +kernel) ?_
  rw [wr_u]
  refine P_aload_n (n := 0) (q := 14) rfl rfl (by decide +kernel) ?_
  refine P_bipush (n := 64) (q := 16) rfl rfl (by decide +kernel) ?_
  refine P_newarr (at0 := .int) (ty := .int) (t0 := 0) (kind := 12) (q := 18) rfl (tGp1 71 rfl rfl) rfl (fun _ h => by cases h) nc12 (by decide) (by decide) ⟨by simp, by rw [szM_app (M ++ [(12, 1600)])]; show szM (M ++ [(12, 1600)]) + 64 ≤ szM (M ++ [(12, 1600)]) + 64; omega⟩ rfl (by decide +kernel) ?_
  rw [show (w32 64).toNat = 64 by decide, l1, wr_z1 (fun w hw e => hI w hw (by omega)), wr_z1 (fun w hw e => by
    rcases List.mem_cons.mp hw with d | d
    · rw [d] at e; have : o = 64 + ((M.length : Int) + 1) := e; omega
    · exact hR w d (by omega))]
  refine P_putR (q := 21) wX2_15' rfl (fun _ => rfl) ho2 rfl (by decide +kernel) ?_
  rw [wr_u]
  refine P_aload_n (n := 0) (q := 22) rfl rfl (by decide +kernel) ?_
  refine P_iconst (n := 0) (q := 23) rfl (by decide +kernel) ?_
  refine P_putI (q := 26) wX2_18' (fun h => by cases h) ho2 rfl (by decide +kernel) ?_
  exact P_vret rfl (by decide +kernel) ⟨rfl, by rw [show 64 + ((M.length : Int) + 1) = 64 + (M.length : Int) + 1 by omega]; rfl⟩
