/-! ===== the law ===== -/
theorem xr (w : Int32) : inR w.toInt := by
  have h1 := Int32.le_toInt w
  have h2 := Int32.toInt_lt w
  unfold inR
  omega
theorem and31 (a : Int) : 0 ≤ (Int32.ofInt a &&& Int32.ofInt 31).toInt ∧ (Int32.ofInt a &&& Int32.ofInt 31).toInt < 32 := by
  have e : ((Int32.ofInt a).toBitVec &&& (Int32.ofInt 31).toBitVec).toNat = (a % 4294967296).toNat % 32 := by
    have e1 : (Int32.ofInt a).toBitVec = BitVec.ofInt 32 a := rfl
    have e2 : (Int32.ofInt 31).toBitVec = BitVec.ofNat 32 31 := by decide
    rw [e1, e2, BitVec.toNat_and, BitVec.toNat_ofInt, BitVec.toNat_ofNat, show 31 % 2 ^ 32 = 2 ^ 5 - 1 by decide, Nat.and_two_pow_sub_one_eq_mod]
    rfl
  have e3 : (Int32.ofInt a &&& Int32.ofInt 31).toInt = ((Int32.ofInt a).toBitVec &&& (Int32.ofInt 31).toBitVec).toInt := rfl
  rw [e3, BitVec.toInt_eq_toNat_of_lt (by rw [e]; omega), e]
  omega
theorem law_loop {X : CX} (hn3 : xN X ≤ 3072) : ∀ (m : Nat) (i : Int) (I R : PF), ((xN X : Int) - i).toNat < m → 0 ≤ i → i ≤ (xN X : Int) + 6 → Sim I R → PL X 38 mL_law 18 [(2, 42), (2, 64), (2, 306), (0, i)] [] I R (fun v _ _ => v = (0, 1)) := by
  have hn : xN X < 2147483648 := by omega
  intro m
  induction m with
  | zero => intro i I R h; exact absurd h (Nat.not_lt_zero _)
  | succ m ih =>
    intro i I R hm i0 i1 h
    have nx : ∀ (I2 R2 : PF), i < (xN X : Int) → i ≤ (xN X : Int) - 6 → Sim I2 R2 → PL X 38 mL_law 989 [(2, 42), (2, 64), (2, 306), (0, i)] [] I2 R2 (fun v _ _ => v = (0, 1)) := fun I2 R2 a b h2 => S_L_law_989 (ih (i + 6) I2 R2 (by omega) (by omega) (by omega) h2)
    refine S_L_law_18 (by omega) (by omega) (fun _ => S_L_law_995 rfl) (fun g => ?_)
    have g0 : i < (xN X : Int) := by omega
    have a31 := and31 ((xV X (i).toNat).toInt)
    exact S_L_law_27 (by omega) hn (by omega)
      (fun _ => S_L_law_168 (d1 := 1) (by omega) hn (by omega) (by omega) (by omega) (by omega) (by omega) (b_feed h (xr _) (xr _) (xr _) (xr _) (xr _)) (fun z I2 R2 q => S_L_law_197 (d1 := 0) (by omega) hn (by omega) (by omega) (by omega) (by omega) (by omega) q (fun z2 I3 R3 q2 => S_L_law_226 q2.1.symm (nx I3 R3 g0 g q2.2))))
      (fun _ => S_L_law_231 (d1 := 0) (by omega) hn (by omega) (b_end h (xr _)) (fun z I2 R2 q => S_L_law_240 (d1 := 0) (by omega) hn (by omega) q (fun z2 I3 R3 q2 => S_L_law_249 q2.1.symm (nx I3 R3 g0 g q2.2))))
      (fun _ => S_L_law_254 (d1 := 37) (by omega) (b_square h) (fun z I2 R2 q => S_L_law_258 (d1 := 12) (by omega) q (fun z2 I3 R3 q2 => S_L_law_262 q2.1.symm (nx I3 R3 g0 g q2.2))))
      (fun _ => S_L_law_267 (d1 := 0) (by omega) hn (by omega) (b_fault h (xr _)) (fun z I2 R2 q => S_L_law_276 (d1 := 0) (by omega) hn (by omega) q (fun z2 I3 R3 q2 => S_L_law_285 q2.1.symm (nx I3 R3 g0 g q2.2))))
      (fun _ => S_L_law_290 (d1 := 3) (by omega) hn (by omega) (b_has h (xr _)) (fun z I2 R2 q => S_L_law_299 (d1 := 1) (by omega) hn (by omega) q (fun z2 I3 R3 q2 => S_L_law_308 q2.1.symm (nx I3 R3 g0 g q2.2))))
      (fun _ => S_L_law_313 (d1 := 1) (by omega) hn (by omega) (by omega) (by omega) (b_letter h (xr _) (xr _) (xr _)) (fun z I2 R2 q => S_L_law_332 (d1 := 2) (by omega) hn (by omega) (by omega) (by omega) q (fun z2 I3 R3 q2 => S_L_law_351 q2.1.symm (nx I3 R3 g0 g q2.2))))
      (fun _ => S_L_law_356 (d1 := 1) (by omega) hn (by omega) (by omega) (b_person h (xr _) (xr _)) (fun z I2 R2 q => S_L_law_370 (d1 := 3) (by omega) hn (by omega) (by omega) q (fun z2 I3 R3 q2 => S_L_law_384 q2.1.symm (nx I3 R3 g0 g q2.2))))
      (fun _ => S_L_law_389 (d1 := 2) (by omega) hn (by omega) (by omega) (b_place h (xr _) (xr _)) (fun z I2 R2 q => S_L_law_403 (d1 := 3) (by omega) hn (by omega) (by omega) q (fun z2 I3 R3 q2 => S_L_law_417 q2.1.symm (nx I3 R3 g0 g q2.2))))
      (fun _ => S_L_law_422 (d1 := 3) (by omega) hn (by omega) (by omega) (b_kept h (xr _) (xr _)) (fun z I2 R2 q => S_L_law_436 (d1 := 2) (by omega) hn (by omega) (by omega) q (fun z2 I3 R3 q2 => S_L_law_450 q2.1.symm (nx I3 R3 g0 g q2.2))))
      (fun _ => S_L_law_455 (d1 := 6) (by omega) hn (by omega) (by omega) (by omega) (b_toss h (xr _) (xr _) (xr _)) (fun z I2 R2 q => S_L_law_474 (d1 := 7) (by omega) hn (by omega) (by omega) (by omega) q (fun z2 I3 R3 q2 => S_L_law_493 q2.1.symm (nx I3 R3 g0 g q2.2))))
      (fun _ => S_L_law_498 (d1 := 8) (by omega) hn (by omega) (by omega) (b_likely h (xr _) (xr _)) (fun z I2 R2 q => S_L_law_512 (d1 := 7) (by omega) hn (by omega) (by omega) q (fun z2 I3 R3 q2 => S_L_law_526 q2.1.symm (nx I3 R3 g0 g q2.2))))
      (fun _ => S_L_law_531 (d1 := 8) (by omega) hn (by omega) (by omega) (b_stand h (xr _) (xr _)) (fun z I2 R2 q => S_L_law_545 (d1 := 8) (by omega) hn (by omega) (by omega) q (fun z2 I3 R3 q2 => S_L_law_559 q2.1.symm (nx I3 R3 g0 g q2.2))))
      (fun _ => S_L_law_564 (d1 := 8) (by omega) hn (by omega) (by omega) (b_change h (xr _) (xr _)) (fun z I2 R2 q => S_L_law_578 (d1 := 7) (by omega) hn (by omega) (by omega) q (fun z2 I3 R3 q2 => S_L_law_592 q2.1.symm (nx I3 R3 g0 g q2.2))))
      (fun _ => S_L_law_597 (d1 := 7) (by omega) hn (by omega) (by omega) (b_later h (xr _) (xr _)) (fun z I2 R2 q => S_L_law_611 (d1 := 8) (by omega) hn (by omega) (by omega) q (fun z2 I3 R3 q2 => S_L_law_625 q2.1.symm (nx I3 R3 g0 g q2.2))))
      (fun _ => S_L_law_630 (d1 := 7) (by omega) hn (by omega) (by omega) (b_lasts h (xr _) (xr _)) (fun z I2 R2 q => S_L_law_644 (d1 := 7) (by omega) hn (by omega) (by omega) q (fun z2 I3 R3 q2 => S_L_law_658 q2.1.symm (nx I3 R3 g0 g q2.2))))
      (fun _ => S_L_law_663 (d1 := 7) (by omega) (b_hatless h) (fun z I2 R2 q => S_L_law_667 (d1 := 7) (by omega) q (fun z2 I3 R3 q2 => S_L_law_671 q2.1.symm (nx I3 R3 g0 g q2.2))))
      (fun _ => S_L_law_676 (d1 := 2) (by omega) (b_see h) (fun z I2 R2 q => S_L_law_680 (d1 := 2) (by omega) q (fun z2 I3 R3 q2 => S_L_law_684 q2.1.symm (nx I3 R3 g0 g q2.2))))
      (fun _ => S_L_law_689 (d1 := 7) (by omega) hn (by omega) (b_wears h (xr _)) (fun z I2 R2 q => S_L_law_698 (d1 := 8) (by omega) hn (by omega) q (fun z2 I3 R3 q2 => S_L_law_707 q2.1.symm (nx I3 R3 g0 g q2.2))))
      (fun _ => S_L_law_712 (d1 := 8) (by omega) hn (by omega) (b_asked h (xr _)) (fun z I2 R2 q => S_L_law_721 (d1 := 8) (by omega) hn (by omega) q (fun z2 I3 R3 q2 => S_L_law_730 q2.1.symm (nx I3 R3 g0 g q2.2))))
      (fun _ => S_L_law_735 (d1 := 3) (by omega) hn (by omega) (by omega) (by omega) (b_move h (xr _) (xr _) (xr _)) (fun z I2 R2 q => S_L_law_754 (d1 := 3) (by omega) hn (by omega) (by omega) (by omega) q (fun z2 I3 R3 q2 => S_L_law_773 q2.1.symm (nx I3 R3 g0 g q2.2))))
      (fun _ => S_L_law_778 (d1 := 3) (by omega) hn (by omega) (by omega) (by omega) (b_train h (xr _) (xr _) (xr _)) (fun z I2 R2 q => S_L_law_797 (d1 := 3) (by omega) hn (by omega) (by omega) (by omega) q (fun z2 I3 R3 q2 => S_L_law_816 q2.1.symm (nx I3 R3 g0 g q2.2))))
      (fun _ => S_L_law_821 (d1 := 8) (by omega) hn (by omega) (b_noons h (xr _)) (fun z I2 R2 q => S_L_law_830 (d1 := 7) (by omega) hn (by omega) q (fun z2 I3 R3 q2 => S_L_law_839 q2.1.symm (nx I3 R3 g0 g q2.2))))
      (fun _ => S_L_law_844 (d1 := 8) (by omega) hn (by omega) (b_chance h (xr _)) (fun z I2 R2 q => S_L_law_853 (d1 := 7) (by omega) hn (by omega) q (fun z2 I3 R3 q2 => S_L_law_862 q2.1.symm (nx I3 R3 g0 g q2.2))))
      (fun _ => S_L_law_867 (d1 := 3) (by omega) (b_undo h) (fun z I2 R2 q => S_L_law_871 (d1 := 0) (by omega) q (fun z2 I3 R3 q2 => S_L_law_875 q2.1.symm (nx I3 R3 g0 g q2.2))))
      (fun _ => S_L_law_880 (d1 := 0) (by omega) hn (by omega) (b_seed h (xr _)) (fun z I2 R2 q => S_L_law_889 (d1 := 0) (by omega) hn (by omega) q (fun z2 I3 R3 q2 => S_L_law_898 q2.1.symm (nx I3 R3 g0 g q2.2))))
      (fun _ => S_L_law_903 (d1 := 37) (by omega) (b_ask h) (fun z I2 R2 q => S_L_law_907 (d1 := 10) (by omega) q (fun z2 I3 R3 q2 => S_L_law_911 q2.1.symm (nx I3 R3 g0 g q2.2))))
      (fun _ => S_L_law_917 (d1 := 1) (by omega) (b_image h) (fun z I2 R2 q => S_L_law_921 (d1 := 1) (by omega) q (fun z2 I3 R3 q2 => S_L_law_925 q2.1.symm (nx I3 R3 g0 g q2.2))))
      (fun _ => S_L_law_930 (d1 := 0) (by omega) hn (by omega) (b_octet h (xr _)) (fun z I2 R2 q => S_L_law_939 (d1 := 0) (by omega) hn (by omega) q (fun z2 I3 R3 q2 => S_L_law_948 q2.1.symm (nx I3 R3 g0 g q2.2))))
      (fun _ => S_L_law_953 (d1 := 4) (by omega) (b_on h) (fun z I2 R2 q => S_L_law_957 (d1 := 5) (by omega) q (fun z2 I3 R3 q2 => S_L_law_961 q2.1.symm (nx I3 R3 g0 g q2.2))))
      (fun _ => S_L_law_966 (d1 := 0) (by omega) hn (by omega) (b_status h (xr _)) (fun z I2 R2 q => S_L_law_975 (d1 := 2) (by omega) hn (by omega) q (fun z2 I3 R3 q2 => S_L_law_984 q2.1.symm (nx I3 R3 g0 g q2.2))))
      (fun _ => nx I R g0 g h)
