/-! ===== memory as a list of writes ===== -/
def wr : List (Int × Int × Int) → PF
  | [] => fun _ _ => 0
  | w :: W => u2 (wr W) w.1 w.2.1 w.2.2
theorem wr_u (W : List (Int × Int × Int)) (o j v : Int) : u2 (wr W) o j v = wr ((o, j, v) :: W) := rfl
theorem wr_0 {a : Int} : ∀ {W : List (Int × Int × Int)}, (∀ w, w ∈ W → w.1 ≠ a) → ∀ j, wr W a j = 0
  | [], _, _ => rfl
  | w :: W, h, j => by
    show u2 (wr W) w.1 w.2.1 w.2.2 a j = 0
    rw [u2_o (fun e => h w (List.mem_cons_self ..) e.symm)]
    exact wr_0 (fun w' h' => h w' (List.mem_cons_of_mem _ h')) j
theorem wr_z1 {W : List (Int × Int × Int)} {o : Int} (h : ∀ w, w ∈ W → w.1 ≠ o) : z1 (wr W) o = wr W := by
  funext a j
  unfold z1
  by_cases c : a = o
  · rw [if_pos c, c]; exact (wr_0 h j).symm
  · rw [if_neg c]
theorem wr_zI {W : List (Int × Int × Int)} {o n : Int} (h : ∀ w, w ∈ W → ¬ (o ≤ w.1 ∧ w.1 ≤ o + n)) : zI (wr W) o n = wr W := by
  funext a j
  unfold zI
  by_cases c : o ≤ a ∧ a ≤ o + n
  · rw [if_pos c]; exact (wr_0 (fun w hw e => h w hw (by rw [e]; exact c)) j).symm
  · rw [if_neg c]
def rws (o : Int) (n : Nat) : List (Int × Int × Int) := (List.range n).map fun i : Nat => (o, (i : Int), o + 1 + (i : Int))
theorem wr_rws {o : Int} : ∀ (n : Nat) (W : List (Int × Int × Int)) (a j : Int), wr (rws o n ++ W) a j = if a = o ∧ 0 ≤ j ∧ j < n then o + 1 + j else wr W a j
  | 0, W, a, j => by
    show wr W a j = _
    rw [if_neg (by omega)]
  | n + 1, W, a, j => by
    have e : rws o (n + 1) ++ W = rws o n ++ ((o, (n : Int), o + 1 + (n : Int)) :: W) := by
      unfold rws
      rw [List.range_succ, List.map_append, List.append_assoc]
      rfl
    rw [e, wr_rws n]
    by_cases c : a = o ∧ 0 ≤ j ∧ j < n
    · rw [if_pos c, if_pos (by omega)]
    · rw [if_neg c]
      show u2 (wr W) o n (o + 1 + n) a j = _
      by_cases c2 : a = o ∧ j = n
      · rw [if_pos (by omega), c2.1, c2.2, u2_at]
      · rw [if_neg (by omega)]
        unfold u2; rw [if_neg c2]
theorem wr_zR {W : List (Int × Int × Int)} {o : Int} {n : Nat} (h : ∀ w, w ∈ W → ¬ (o ≤ w.1 ∧ w.1 ≤ o + n)) : zR (wr W) o n = wr (rws o n ++ W) := by
  funext a j
  rw [wr_rws]
  unfold zR
  by_cases c : a = o
  · rw [if_pos c]
    by_cases c2 : 0 ≤ j ∧ j < n
    · rw [if_pos c2, if_pos ⟨c, c2⟩]
    · rw [if_neg c2, if_neg (fun d => c2 d.2)]
      exact (wr_0 (fun w hw e => h w hw (by rw [e, c]; omega)) j).symm
  · have e2 : (if a = o ∧ 0 ≤ j ∧ j < (n : Int) then o + 1 + j else wr W a j) = wr W a j := if_neg (fun d => c d.1)
    rw [if_neg c, e2]
    by_cases c2 : o < a ∧ a ≤ o + n
    · rw [if_pos c2]; exact (wr_0 (fun w hw e => h w hw (by rw [e]; omega)) j).symm
    · rw [if_neg c2]
theorem wX8_26 : FW RX8 26 8 4 (.array (.array .int)) true := ⟨_, _, _, cOK8, by decide, rfl, rfl, Or.inl ⟨tGp1 135 rfl rfl, fun _ => rfl⟩⟩
theorem szM_app (M N : PM) : szM (M ++ N) = szM M + szM N := by unfold szM; rw [List.map_append, List.sum_append]
theorem i_State {X : CX} {M : PM} {WI WR : List (Int × Int × Int)} {o : Int} (ho : kd M o = 8) (ho' : kd (M ++ (15, 6) :: List.replicate 6 (12, 8)) o = 8) (hI : ∀ w, w ∈ WI → ¬ (64 + (M.length : Int) ≤ w.1 ∧ w.1 ≤ 64 + (M.length : Int) + 6)) (hR : ∀ w, w ∈ WR → ¬ (64 + (M.length : Int) ≤ w.1 ∧ w.1 ≤ 64 + (M.length : Int) + 6)) (hlt : o < 64 + (M.length : Int)) :
    Callee X 1 mX8_init M (M ++ (15, 6) :: List.replicate 6 (12, 8)) [(2, o)] (wr WI) (wr WR) (fun _ I' R' => I' = wr ((o, 3, 0) :: (o, 2, 0) :: (o, 1, -1) :: (o, 0, 0) :: WI) ∧ R' = wr ((o, 4, 64 + (M.length : Int)) :: (rws (64 + (M.length : Int)) 6 ++ WR))) := by
  refine callee_b (by decide +kernel) (Nat.le_of_ble_eq_true rfl) rfl ?_
  refine P_aload_n (n := 0) (q := 1) rfl rfl (by decide +kernel) ?_
  refine P_objInit (q := 4) ho (by decide) (tGp1 120 rfl rfl) (tGp1 24 rfl rfl) (tGp1 25 rfl rfl) (by decide) (by decide) rfl (by decide +kernel) ?_
  refine P_aload_n (n := 0) (q := 5) rfl rfl (by decide +kernel) ?_
  refine P_iconst (n := 0) (q := 6) rfl (by decide +kernel) ?_
  refine P_putI (q := 9) wX8_9 (fun h => by cases h) ho rfl (by decide +kernel) ?_
  refine P_aload_n (n := 0) (q := 10) rfl rfl (by decide +kernel) ?_
  refine P_iconst (n := -1) (q := 11) rfl (by decide +kernel) ?_
  refine P_putI (q := 14) wX8_15 (fun h => by cases h) ho rfl (by decide +kernel) ?_
  refine P_aload_n (n := 0) (q := 15) rfl rfl (by decide +kernel) ?_
  refine P_iconst (n := 0) (q := 16) rfl (by decide +kernel) ?_
  refine P_putI (q := 19) wX8_18 (fun h => by cases h) ho rfl (by decide +kernel) ?_
  refine P_aload_n (n := 0) (q := 20) rfl rfl (by decide +kernel) ?_
  refine P_iconst (n := 0) (q := 21) rfl (by decide +kernel) ?_
  refine P_putI (q := 24) wX8_21 (fun h => by cases h) ho rfl (by decide +kernel) ?_
  rw [wr_u, wr_u, wr_u, wr_u]
  refine P_aload_n (n := 0) (q := 25) rfl rfl (by decide +kernel) ?_
  refine P_bipush (n := 6) (q := 27) rfl rfl (by decide +kernel) ?_
  refine P_bipush (n := 8) (q := 29) rfl rfl (by decide +kernel) ?_
  refine P_mna (N := 6) (K := 8) (q := 33) (tGp1 121 rfl rfl) (tGp1 71 rfl rfl) (by decide) (by decide) ⟨by simp, by rw [szM_app]; exact Nat.le_refl _⟩ rfl (by decide +kernel) ?_
  rw [wr_zI (fun w hw => by
    rcases List.mem_cons.mp hw with e | hw
    · rw [e]; show ¬ (64 + (M.length : Int) ≤ o ∧ _); omega
    rcases List.mem_cons.mp hw with e | hw
    · rw [e]; show ¬ (64 + (M.length : Int) ≤ o ∧ _); omega
    rcases List.mem_cons.mp hw with e | hw
    · rw [e]; show ¬ (64 + (M.length : Int) ≤ o ∧ _); omega
    rcases List.mem_cons.mp hw with e | hw
    · rw [e]; show ¬ (64 + (M.length : Int) ≤ o ∧ _); omega
    exact hI w hw), wr_zR (n := 6) hR]
  refine P_putR (q := 36) wX8_26 rfl (fun _ => rfl) ho' rfl (by decide +kernel) ?_
  exact P_vret rfl (by decide +kernel) ⟨rfl, rfl⟩
