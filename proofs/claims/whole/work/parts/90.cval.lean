/-! ===== the class's Formula.valueBy ===== -/
def in8 (v : Int) : Prop := -9223372036854775808 ≤ v ∧ v < 9223372036854775808
theorem o64 {a : Int} (h : in8 a) : (Int64.ofInt a).toInt = a := Int64.toInt_ofInt_of_le (by unfold in8 at h; omega) (by unfold in8 at h; omega)
theorem x64 {a b : Int} (ha : in8 a) (hb : in8 b) : ((Int64.ofInt a ^^^ Int64.ofInt b).toInt < 0) ↔ ((a < 0) ↔ ¬ (b < 0)) := by
  have h : (Int64.ofInt a ^^^ Int64.ofInt b).toBitVec.msb = ((Int64.ofInt a).toBitVec.msb ^^ (Int64.ofInt b).toBitVec.msb) := by rw [Int64.toBitVec_xor, BitVec.msb_xor]
  rw [BitVec.msb_eq_toInt, BitVec.msb_eq_toInt, BitVec.msb_eq_toInt, Int64.toInt_toBitVec, Int64.toInt_toBitVec, Int64.toInt_toBitVec, o64 ha, o64 hb] at h
  by_cases c1 : a < 0 <;> by_cases c2 : b < 0 <;> simp [c1, c2] at h ⊢ <;> omega
theorem fdt {a b : Int} (hb : b ≠ 0) : a.fdiv b = if b ∣ a then a.tdiv b else if (a < 0 ↔ ¬ (b < 0)) then a.tdiv b - 1 else a.tdiv b := by
  rw [Int.fdiv_eq_tdiv]
  by_cases d : b ∣ a
  · rw [if_pos d, if_pos d]; omega
  · rw [if_neg d, if_neg d]
    have hs : b.sign = if b < 0 then -1 else 1 := by
      by_cases c : b < 0
      · rw [if_pos c]; exact Int.sign_eq_neg_one_of_neg c
      · rw [if_neg c]; exact Int.sign_eq_one_of_pos (by omega)
    rw [hs]
    generalize a.tdiv b = q
    by_cases c1 : a < 0 <;> by_cases c2 : b < 0
    · rw [if_neg (by omega), if_neg (by omega), if_pos c2, if_neg (by omega)]; omega
    · rw [if_neg (by omega), if_pos (by omega), if_neg c2, if_pos (by omega)]
    · rw [if_pos (by omega), if_neg (by omega), if_pos (by omega)]
    · rw [if_pos (by omega), if_pos (by omega), if_neg (by omega)]; omega
theorem c_floorDivL {X : CX} {I R : PF} {a b : Int} (ha : bd a) (hb : bd b) (h0 : b ≠ 0) : CN X 0 mJ9_floorDiv_f86c9 [(1, a), (1, b)] I R (fun v I' R' => v.2 = a.fdiv b ∧ I' = I ∧ R' = R) := by
  refine callee_f (by decide +kernel) (Nat.le_of_ble_eq_true rfl) rfl ?_
  have a8 : in8 a := by unfold bd at ha; unfold in8; omega
  have b8 : in8 b := by unfold bd at hb; unfold in8; omega
  have hx := x64 a8 b8
  have hf := fdt (a := a) h0
  have hq : bd (a.tdiv b) := by
    have := Int.natAbs_tdiv_le_natAbs a b
    unfold bd at *; omega
  have hm : (a.tdiv b) * b + a.tmod b = a := by rw [Int.mul_comm]; exact Int.mul_tdiv_add_tmod a b
  have hmb : (a.tmod b).natAbs ≤ a.natAbs := by rw [Int.natAbs_tmod]; exact Nat.mod_le _ _
  refine S_J9_floorDiv_f86c9_0 h0 a8 b8 ⟨Int64.le_toInt _, Int64.toInt_lt _⟩ (fun g => ?_) (fun g => ?_)
  · refine S_J9_floorDiv_f86c9_27 ⟨?_, rfl, rfl⟩
    show a.tdiv b = a.fdiv b
    rw [hf, if_neg (c := (a < 0 ↔ ¬ (b < 0))) (fun c => by have := hx.mpr c; omega)]
    split <;> rfl
  · refine S_J9_floorDiv_f86c9_13 (by unfold bd at ha; omega) a8 (fun g1 => ?_) (fun g1 => ?_)
    · refine S_J9_floorDiv_f86c9_27 ⟨?_, rfl, rfl⟩
      show a.tdiv b = a.fdiv b
      rw [hf, if_pos ⟨a.tdiv b, by rw [Int.mul_comm]; exact g1.symm⟩]
    · refine S_J9_floorDiv_f86c9_22 ⟨?_, rfl, rfl⟩
      show a.tdiv b - 1 = a.fdiv b
      rw [hf, if_neg (fun c => g1 (Int.tdiv_mul_cancel c)), if_pos (hx.mp g)]
theorem c_minL {X : CX} {I R : PF} {x y : Int} (hx : in8 x) (hy : in8 y) : CN X 0 mJ9_min_f86c9 [(1, x), (1, y)] I R (fun v I' R' => v.2 = min x y ∧ I' = I ∧ R' = R) := by
  refine callee_f (by decide +kernel) (Nat.le_of_ble_eq_true rfl) rfl ?_
  refine S_J9_min_f86c9_0 hx hy (fun g => ?_) (fun g => ?_)
  · exact S_J9_min_f86c9_10 (S_J9_min_f86c9_11 ⟨by show y = min x y; omega, rfl, rfl⟩)
  · exact S_J9_min_f86c9_6 (S_J9_min_f86c9_11 ⟨by show x = min x y; omega, rfl, rfl⟩)
theorem c_maxL {X : CX} {I R : PF} {x y : Int} (hx : in8 x) (hy : in8 y) : CN X 0 mJ9_max_f86c9 [(1, x), (1, y)] I R (fun v I' R' => v.2 = max x y ∧ I' = I ∧ R' = R) := by
  refine callee_f (by decide +kernel) (Nat.le_of_ble_eq_true rfl) rfl ?_
  refine S_J9_max_f86c9_0 hx hy (fun g => ?_) (fun g => ?_)
  · exact S_J9_max_f86c9_10 (S_J9_max_f86c9_11 ⟨by show y = max x y; omega, rfl, rfl⟩)
  · exact S_J9_max_f86c9_6 (S_J9_max_f86c9_11 ⟨by show x = max x y; omega, rfl, rfl⟩)
theorem c_factAt {X : CX} {I R : PF} {a k : Int} (hk : kd MF a = 12) (hn : (ln MF a : Int) = 13) (h : 0 ≤ k ∧ k < 13) : CN X 0 mX2_factAt [(2, a), (0, k)] I R (fun v I' R' => v.2 = I a k ∧ I' = I ∧ R' = R) := by
  refine callee_b (by decide +kernel) (Nat.le_of_ble_eq_true rfl) rfl ?_
  refine S_X2_factAt_0 (by omega) (fun g => by omega) (fun _ => ?_)
  refine S_X2_factAt_4 hk (by omega) (by omega) (by omega) (fun g => by omega) (fun _ => ?_)
  exact S_X2_factAt_10 hk (by omega) (by omega) (S_X2_factAt_17 ⟨rfl, rfl, rfl⟩)
def mid (v : Int) : Prop := -2000000000000 ≤ v ∧ v ≤ 2000000000000
theorem mul_mid {a b : Int} (ha : bd a) (hb : bd b) : mid (a * b) := by
  have h : (a * b).natAbs = a.natAbs * b.natAbs := Int.natAbs_mul a b
  have h2 : a.natAbs * b.natAbs ≤ 1000000 * 1000000 := Nat.mul_le_mul (by unfold bd at ha; omega) (by unfold bd at hb; omega)
  unfold mid; omega
theorem clp_id {v : Int} (h : bd v) : clp v = v := by unfold bd at h; unfold clp; omega
theorem c_join {X : CX} {I R : PF} {c a b : Int} (hc : 1 ≤ c ∧ c ≤ 11) (ha : bd a) (hb : bd b) (h1 : 10 ≤ c → b01 a ∧ b01 b) : CN X 1 mX2_join [(0, -19 - c), (1, a), (1, b)] I R (fun v I' R' => clp v.2 = jn c a b ∧ mid v.2 ∧ I' = I ∧ R' = R) := by
  refine callee_b (by decide +kernel) (Nat.le_of_ble_eq_true rfl) rfl ?_
  have a8 : in8 a := by unfold bd at ha; unfold in8; omega
  have b8 : in8 b := by unfold bd at hb; unfold in8; omega
  have j : ∀ {v : Int} {R' : PF}, v = jn c a b → c ≤ 9 → R' = R → (clp v = jn c a b ∧ mid v ∧ I = I ∧ R' = R) := fun {v R'} e h9 er => by
    have := jn_bd (c := c) ⟨hc.1, h9⟩ ha hb
    refine ⟨by rw [e]; exact clp_id this, ?_, rfl, er⟩
    rw [e]; unfold bd at this; unfold mid; omega
  have hw : c = 10 ∨ c = 11 → b01 a ∧ b01 b := fun d => h1 (by omega)
  refine S_X2_join_0 (by omega) (fun g => ?_) (fun g => ?_) (fun g => ?_) (fun g => ?_) (fun g => ?_) (fun g => ?_) (fun g => ?_) (fun g => ?_) (fun g => ?_) (fun g => ?_) (fun g => ?_) (fun g => by omega)
  · obtain rfl : c = 11 := by omega
    obtain ⟨a1, b1⟩ := hw (Or.inr rfl)
    refine S_X2_join_140 ?_
    unfold mid
    rcases a1 with rfl | rfl <;> rcases b1 with rfl | rfl <;> exact ⟨by decide, by decide, rfl, rfl⟩
  · obtain rfl : c = 10 := by omega
    obtain ⟨a1, b1⟩ := hw (Or.inl rfl)
    refine S_X2_join_136 ?_
    unfold mid
    rcases a1 with rfl | rfl <;> rcases b1 with rfl | rfl <;> exact ⟨by decide, by decide, rfl, rfl⟩
  · obtain rfl : c = 9 := by omega
    refine S_X2_join_124 a8 b8 (fun g1 => ?_) (fun g1 => ?_)
    · refine S_X2_join_134 (S_X2_join_135 (j ?_ (by decide) rfl))
      show (0 : Int) = if a = b then 1 else 0
      rw [if_neg g1]
    · refine S_X2_join_130 (S_X2_join_135 (j ?_ (by decide) rfl))
      show (1 : Int) = if a = b then 1 else 0
      rw [if_pos g1]
  · obtain rfl : c = 8 := by omega
    refine S_X2_join_112 a8 b8 (fun g1 => ?_) (fun g1 => ?_)
    · refine S_X2_join_122 (S_X2_join_123 (j ?_ (by decide) rfl))
      show (0 : Int) = if b < a then 1 else 0
      rw [if_neg (by omega)]
    · refine S_X2_join_118 (S_X2_join_123 (j ?_ (by decide) rfl))
      show (1 : Int) = if b < a then 1 else 0
      rw [if_pos g1]
  · obtain rfl : c = 7 := by omega
    refine S_X2_join_100 a8 b8 (fun g1 => ?_) (fun g1 => ?_)
    · refine S_X2_join_110 (S_X2_join_111 (j ?_ (by decide) rfl))
      show (0 : Int) = if a < b then 1 else 0
      rw [if_neg (by omega)]
    · refine S_X2_join_106 (S_X2_join_111 (j ?_ (by decide) rfl))
      show (1 : Int) = if a < b then 1 else 0
      rw [if_pos g1]
  · obtain rfl : c = 6 := by omega
    refine S_X2_join_94 (d1 := 0) (by omega) (c_maxL a8 b8) (fun z I1 R1 p => ?_)
    obtain ⟨(hz : z = _), rfl, rfl⟩ := p
    exact S_X2_join_99 (j hz (by decide) rfl)
  · obtain rfl : c = 5 := by omega
    refine S_X2_join_88 (d1 := 0) (by omega) (c_minL a8 b8) (fun z I1 R1 p => ?_)
    obtain ⟨(hz : z = _), rfl, rfl⟩ := p
    exact S_X2_join_93 (j hz (by decide) rfl)
  · obtain rfl : c = 4 := by omega
    refine S_X2_join_72 b8 (fun g1 => ?_) (fun g1 => ?_)
    · refine S_X2_join_82 (d1 := 0) (by omega) (c_floorDivL ha hb g1) (fun z I1 R1 p => ?_)
      obtain ⟨(hz : z = _), rfl, rfl⟩ := p
      refine S_X2_join_87 (j ?_ (by decide) rfl)
      show z = if b = 0 then 0 else a.fdiv b
      rw [if_neg g1]; exact hz
    · refine S_X2_join_78 (S_X2_join_87 (j ?_ (by decide) rfl))
      show (0 : Int) = if b = 0 then 0 else a.fdiv b
      rw [if_pos g1]
  · obtain rfl : c = 3 := by omega
    exact S_X2_join_68 ⟨rfl, mul_mid ha hb, rfl, rfl⟩
  · obtain rfl : c = 2 := by omega
    exact S_X2_join_64 ⟨rfl, by unfold bd at ha hb; unfold mid; simp only; omega, rfl, rfl⟩
  · obtain rfl : c = 1 := by omega
    exact S_X2_join_60 ⟨rfl, by unfold bd at ha hb; unfold mid; simp only; omega, rfl, rfl⟩
