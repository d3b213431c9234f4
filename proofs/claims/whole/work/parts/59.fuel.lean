/-! ===== fuel does not matter where there is enough ===== -/
theorem pre_fuel {t : Int → Int} {n tk : Int} : ∀ (k k' : Nat) (q : Int × Bool) (U : List Int) (o : Int), (n - q.1).toNat < k → (n - q.1).toNat < k' → preY t n tk k q U o = preY t n tk k' q U o
  | 0, k', q, U, o, h, _ => absurd h (Nat.not_lt_zero _)
  | k + 1, 0, q, U, o, _, h => absurd h (Nat.not_lt_zero _)
  | k + 1, k' + 1, q, U, o, h, h' => by
    have s1 := skp_ge t n q.1
    have s2 := run_ge isL t n (skp t n q.1)
    have s3 := skp_ge t n (run isL t n (skp t n q.1))
    unfold preY
    by_cases g1 : nxt t n (.inl q) = 40
    · rw [if_pos g1, if_pos g1]
      have hn := lkv_n (t := t) (n := n) (a := skp t n q.1) g1 (by decide)
      by_cases g2 : o = 6
      · rw [if_pos g2, if_pos g2]
      · rw [if_neg g2, if_neg g2]; exact pre_fuel k k' _ _ _ (by simp only; omega) (by simp only; omega)
    · rw [if_neg g1, if_neg g1]
      by_cases g3 : tw t n (.inl q) = 191594322 ∨ tw t n (.inl q) = 187539624
      · rw [if_pos g3, if_pos g3]
        by_cases g4 : nxt t n (.inl (run isL t n (skp t n q.1), true)) = 40
        · rw [if_pos g4, if_pos g4]
          have hn := lkv_n (t := t) (n := n) (a := skp t n (run isL t n (skp t n q.1))) g4 (by decide)
          by_cases g2 : o = 6
          · rw [if_pos g2, if_pos g2]
          · rw [if_neg g2, if_neg g2]; exact pre_fuel k k' _ _ _ (by simp only; omega) (by simp only; omega)
        · rw [if_neg g4, if_neg g4]
      · rw [if_neg g3, if_neg g3]
        by_cases g5 : tk = 2 ∧ tw t n (.inl q) = 281319642
        · rw [if_pos g5, if_pos g5]
          have lt := goT_lt (tw_w g5.2 (by decide))
          by_cases g2 : o = 6
          · rw [if_pos g2, if_pos g2]
          · rw [if_neg g2, if_neg g2]; exact pre_fuel k k' _ _ _ (by simp only; omega) (by simp only; omega)
        · rw [if_neg g5, if_neg g5]
theorem part_fuel {t : Int → Int} {n tk : Int} {k k' : Nat} {y : Y4} (h : (n - y.1.1).toNat < k) (h' : (n - y.1.1).toNat < k') : partY t n tk k y = partY t n tk k' y := by
  unfold partY
  rw [pre_fuel k k' _ _ _ h h']
theorem cls_fuel {t : Int → Int} {n : Int} : ∀ (k k' : Nat) (y : Y4), (n - y.1.1).toNat < k → (n - y.1.1).toNat < k' → clsY t n k y = clsY t n k' y
  | 0, k', y, h, _ => absurd h (Nat.not_lt_zero _)
  | k + 1, 0, y, _, h => absurd h (Nat.not_lt_zero _)
  | k + 1, k' + 1, y, h, h' => by
    have s1 := skp_ge t n y.1.1
    unfold clsY
    by_cases g : nxt t n (.inl y.1) = 41 ∧ (brk y.2.1 = 20 ∨ brk y.2.1 = 23 ∨ brk y.2.1 = 24)
    · rw [if_pos g, if_pos g]
      have hn := lkv_n (t := t) (n := n) (a := skp t n y.1.1) g.1 (by decide)
      exact cls_fuel k k' _ (by simp only; omega) (by simp only; omega)
    · rw [if_neg g, if_neg g]
theorem goes_fuel {t : Int → Int} {n : Int} {k k' : Nat} {y : Y4} (h : (n - y.1.1).toNat < k) (h' : (n - y.1.1).toNat < k') : goesY t n k y = goesY t n k' y := by
  unfold goesY
  rw [cls_fuel k k' y h h']
theorem nxt_end {t : Int → Int} {n : Int} {q : Int × Bool} (h : n ≤ q.1) : nxt t n (.inl q) = -1 := by
  have s1 := skp_ge t n q.1
  show lkv t n _ = -1
  unfold lkv
  rw [if_neg (by omega)]
theorem op_n {t : Int → Int} {n tk : Int} {q : Int × Bool} {C : List Int} {r : (Int × Bool) × List Int} (h : opY t n tk q C = .inl r) : q.1 < n := by
  have s1 := skp_ge t n q.1
  unfold opY at h
  by_cases g : wOf tk 0 11 (tw t n (.inl q)) ≠ -1
  · have hw2 := wOf_wk g
    have hne : tw t n (.inl q) ≠ 0 := fun c => by rw [c] at hw2; exact absurd hw2.2.1 (by decide)
    have := (tw_w rfl hne).1
    omega
  · rw [if_neg g] at h
    cases hn : numS t n 0 9999 (.inl q) with
    | inl q2 => have := (num_lt hn).2.1.1; omega
    | inr f => rw [hn] at h; cases h
theorem part_n {t : Int → Int} {n tk : Int} {k : Nat} {y y' : Y4} (h : partY t n tk k y = .inl y') : y.1.1 < n := by
  unfold partY at h
  cases hp : preY t n tk k y.1 y.2.1 y.2.2.2 with
  | inr f => rw [hp] at h; cases h
  | inl p =>
    rw [hp] at h
    simp only at h
    have h1 := pre_le _ _ _ _ _ hp
    cases ho : opY t n tk p.1 y.2.2.1 with
    | inr f => rw [ho] at h; cases h
    | inl r => have := op_n ho; omega
theorem sumsL_fuel {t : Int → Int} {n tk : Int} {K : Nat} : ∀ (k k' : Nat) (y : Y4), (n - y.1.1).toNat < k → (n - y.1.1).toNat < k' → sumsL t n tk K k y = sumsL t n tk K k' y
  | 0, k', y, h, _ => absurd h (Nat.not_lt_zero _)
  | k + 1, 0, y, _, h => absurd h (Nat.not_lt_zero _)
  | k + 1, k' + 1, y, h, h' => by
    unfold sumsL
    cases hp : partY t n tk K y with
    | inr f => rfl
    | inl y1 =>
      simp only
      have h1 := part_lt hp
      have h2 := part_n hp
      cases hg : goesY t n K y1 with
      | inr f => rfl
      | inl r =>
        obtain ⟨b, y2⟩ := r
        have h3 := goes_le hg
        simp only
        cases b with
        | true => simp only [if_true]; exact sumsL_fuel k k' y2 (by omega) (by omega)
        | false => simp only [Bool.false_eq_true, if_false]
