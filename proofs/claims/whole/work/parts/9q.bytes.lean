/-! ===== bytes ===== -/
theorem and255 (a : Int) : (Int32.ofInt a &&& Int32.ofInt 255).toInt = a % 256 := by
  have e : ((Int32.ofInt a).toBitVec &&& (Int32.ofInt 255).toBitVec).toNat = (a % 4294967296).toNat % 256 := by
    have e1 : (Int32.ofInt a).toBitVec = BitVec.ofInt 32 a := rfl
    have e2 : (Int32.ofInt 255).toBitVec = BitVec.ofNat 32 255 := by decide
    rw [e1, e2, BitVec.toNat_and, BitVec.toNat_ofInt, BitVec.toNat_ofNat, show 255 % 2 ^ 32 = 2 ^ 8 - 1 by decide, Nat.and_two_pow_sub_one_eq_mod]
    rfl
  show ((Int32.ofInt a).toBitVec &&& (Int32.ofInt 255).toBitVec).toInt = _
  rw [BitVec.toInt_eq_toNat_of_lt (by rw [e]; omega), e]
  omega
theorem shr_v {x : Int} (hx : inR x) (s : Int) (hs : s = 0 ∨ s = 8 ∨ s = 16 ∨ s = 24) : shr32 x s = x / 2 ^ s.toNat := by
  have h : ∀ n : Nat, ((Int32.ofInt x).toBitVec.sshiftRight n).toInt = x / 2 ^ n := fun n => by
    rw [BitVec.toInt_sshiftRight, Int.shiftRight_eq_div_pow, Int32.toInt_toBitVec, o32 hx]
    rfl
  rcases hs with rfl | rfl | rfl | rfl
  · exact h 0
  · exact h 8
  · exact h 16
  · exact h 24
theorem ushr_m {x : Int} (hx : inR x) (s : Int) (hs : s = 0 ∨ s = 8 ∨ s = 16 ∨ s = 24) : ushr32 x s % 256 = x / 2 ^ s.toNat % 256 := by
  have h : ∀ n : Nat, (n = 0 ∨ n = 8 ∨ n = 16 ∨ n = 24) → ((Int32.ofInt x).toBitVec >>> n).toInt % 256 = x / 2 ^ n % 256 := fun n hn => by
    have e1 : (Int32.ofInt x).toBitVec = BitVec.ofInt 32 x := rfl
    have e : ((Int32.ofInt x).toBitVec >>> n).toNat = (x % 4294967296).toNat / 2 ^ n := by
      rw [BitVec.toNat_ushiftRight, e1, BitVec.toNat_ofInt, Nat.shiftRight_eq_div_pow]
      rfl
    rw [BitVec.toInt_eq_toNat_cond, e]
    unfold inR at hx
    rcases hn with rfl | rfl | rfl | rfl <;> simp only [Nat.reducePow, Int.reducePow] <;> split <;> omega
  rcases hs with rfl | rfl | rfl | rfl
  · exact h 0 (Or.inl rfl)
  · exact h 8 (by decide)
  · exact h 16 (by decide)
  · exact h 24 (by decide)
/-- byte j (0 the highest) -/
def byt (x j : Int) : Int := x / 2 ^ (8 * (3 - j)).toNat % 256
theorem byt_r (x j : Int) : 0 ≤ byt x j ∧ byt x j ≤ 255 := by unfold byt; omega
