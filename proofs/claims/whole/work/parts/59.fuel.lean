/-! ===== fuel does not matter where there is enough ===== -/
theorem pre_fuel {t : Int → Int} {n tk : Int} : ∀ (k k' : Nat) (q : Int × Bool) (U : List Int) (o : Int), (n - q.1).toNat < k → (n - q.1).toNat < k' → preY t n tk k q U o = preY t n tk k' q U o
  | 0, k', q, U, o, h, _ => absurd h (Nat.not_lt_zero _)
  | k + 1, 0, q, U, o, _, h => absurd h (Nat.not_lt_zero _)
  | k + 1, k' + 1, q, U, o, h, h' => by
    have s1 := skp_ge t n q.1
    have s2 := run_ge isL t n (skp t n q.1)
    have s3 := skp_ge t n (run isL t n (skp t n q.1))
    unfold preY
    by_cases g1 : nxt t n (.inl q) = 40
    · rw [if_pos g1, if_pos g1]
      have hn := lkv_n (t := t) (n := n) (a := skp t n q.1) g1 (by decide)
      by_cases g2 : o = 6
      · rw [if_pos g2, if_pos g2]
      · rw [if_neg g2, if_neg g2]; exact pre_fuel k k' _ _ _ (by simp only; omega) (by simp only; omega)
    · rw [if_neg g1, if_neg g1]
      by_cases g3 : tw t n (.inl q) = 191594322 ∨ tw t n (.inl q) = 187539624
      · rw [if_pos g3, if_pos g3]
        by_cases g4 : nxt t n (.inl (run isL t n (skp t n q.1), true)) = 40
        · rw [if_pos g4, if_pos g4]
          have hn := lkv_n (t := t) (n := n) (a := skp t n (run isL t n (skp t n q.1))) g4 (by decide)
          by_cases g2 : o = 6
          · rw [if_pos g2, if_pos g2]
          · rw [if_neg g2, if_neg g2]; exact pre_fuel k k' _ _ _ (by simp only; omega) (by simp only; omega)
        · rw [if_neg g4, if_neg g4]
      · rw [if_neg g3, if_neg g3]
        by_cases g5 : tk = 2 ∧ tw t n (.inl q) = 281319642
        · rw [if_pos g5, if_pos g5]
          have lt := goT_lt (tw_w g5.2 (by decide))
          by_cases g2 : o = 6
          · rw [if_pos g2, if_pos g2]
          · rw [if_neg g2, if_neg g2]; exact pre_fuel k k' _ _ _ (by simp only; omega) (by simp only; omega)
        · rw [if_neg g5, if_neg g5]
theorem part_fuel {t : Int → Int} {n tk : Int} {k k' : Nat} {y : Y4} (h : (n - y.1.1).toNat < k) (h' : (n - y.1.1).toNat < k') : partY t n tk k y = partY t n tk k' y := by
  unfold partY
  rw [pre_fuel k k' _ _ _ h h']
theorem cls_fuel {t : Int → Int} {n : Int} : ∀ (k k' : Nat) (y : Y4), (n - y.1.1).toNat < k → (n - y.1.1).toNat < k' → clsY t n k y = clsY t n k' y
  | 0, k', y, h, _ => absurd h (Nat.not_lt_zero _)
  | k + 1, 0, y, _, h => absurd h (Nat.not_lt_zero _)
  | k + 1, k' + 1, y, h, h' => by
    have s1 := skp_ge t n y.1.1
    unfold clsY
    by_cases g : nxt t n (.inl y.1) = 41 ∧ (brk y.2.1 = 20 ∨ brk y.2.1 = 23 ∨ brk y.2.1 = 24)
    · rw [if_pos g, if_pos g]
      have hn := lkv_n (t := t) (n := n) (a := skp t n y.1.1) g.1 (by decide)
      exact cls_fuel k k' _ (by simp only; omega) (by simp only; omega)
    · rw [if_neg g, if_neg g]
theorem goes_fuel {t : Int → Int} {n : Int} {k k' : Nat} {y : Y4} (h : (n - y.1.1).toNat < k) (h' : (n - y.1.1).toNat < k') : goesY t n k y = goesY t n k' y := by
  unfold goesY
  rw [cls_fuel k k' y h h']
theorem nxt_end {t : Int → Int} {n : Int} {q : Int × Bool} (h : n ≤ q.1) : nxt t n (.inl q) = -1 := by
  have s1 := skp_ge t n q.1
  show lkv t n _ = -1
  unfold lkv
  rw [if_neg (by omega)]
