/-! ===== the machine and the formulas as told: a part ===== -/
def SSim (t : Int → Int) (n tk : Int) (K : Nat) (o : Int) (S : (Int × Bool) → List Int → RD) : Prop := ∀ q C U, HB U → (n - q.1).toNat < K → MSim t n tk K o U p14 (Ay t n tk K (q, U, C, o)) q.1 42 47 43 45 (S q C)
theorem pre_bad1 {t : Int → Int} {n tk : Int} {K : Nat} {q : Int × Bool} {U : List Int} {o : Int} (hK : 0 < K) (h : nxt t n (.inl q) = 40) (ho : o = 6) : preY t n tk K q U o = .inr (4, skp t n q.1) := by
  obtain ⟨k, rfl⟩ : ∃ k, K = k + 1 := ⟨K - 1, by omega⟩
  rw [preY, if_pos h, if_pos ho]
theorem pre_bad2 {t : Int → Int} {n tk : Int} {K : Nat} {q : Int × Bool} {U : List Int} {o : Int} (hK : 0 < K) (h0 : nxt t n (.inl q) ≠ 40) (hw : tw t n (.inl q) = 191594322 ∨ tw t n (.inl q) = 187539624) (h : nxt t n (.inl (run isL t n (skp t n q.1), true)) = 40) (ho : o = 6) : preY t n tk K q U o = .inr (4, skp t n (run isL t n (skp t n q.1))) := by
  obtain ⟨k, rfl⟩ : ∃ k, K = k + 1 := ⟨K - 1, by omega⟩
  rw [preY, if_neg h0, if_pos hw, if_pos h, if_pos ho]
theorem pre_bad3 {t : Int → Int} {n tk : Int} {K : Nat} {q : Int × Bool} {U : List Int} {o : Int} (hK : 0 < K) (h0 : nxt t n (.inl q) ≠ 40) (hw : tw t n (.inl q) = 191594322 ∨ tw t n (.inl q) = 187539624) (h : nxt t n (.inl (run isL t n (skp t n q.1), true)) ≠ 40) : preY t n tk K q U o = .inr (1, skp t n (run isL t n (skp t n q.1))) := by
  obtain ⟨k, rfl⟩ : ∃ k, K = k + 1 := ⟨K - 1, by omega⟩
  rw [preY, if_neg h0, if_pos hw, if_neg h]
theorem pre_bad4 {t : Int → Int} {n tk : Int} {K : Nat} {q : Int × Bool} {U : List Int} {o : Int} (hK : 0 < K) (h0 : nxt t n (.inl q) ≠ 40) (hw : ¬ (tw t n (.inl q) = 191594322 ∨ tw t n (.inl q) = 187539624)) (h : tk = 2 ∧ tw t n (.inl q) = 281319642) (ho : o = 6) : preY t n tk K q U o = .inr (4, skp t n q.1) := by
  obtain ⟨k, rfl⟩ : ∃ k, K = k + 1 := ⟨K - 1, by omega⟩
  rw [preY, if_neg h0, if_neg hw, if_pos h, if_pos ho]
theorem PSim.mk {t : Int → Int} {n tk : Int} {K : Nat} {o : Int} {q : Int × Bool} {U C : List Int} (x : RD) (h : match x with | .inl r => Ay t n tk K (q, U, C, o) = Ey t n tk K (r.1, U, r.2, o) ∧ q.1 ≤ r.1.1 | .inr f => Ay t n tk K (q, U, C, o) = .inr f) :
    (∀ r, x = .inl r → Ay t n tk K (q, U, C, o) = Ey t n tk K (r.1, U, r.2, o) ∧ q.1 ≤ r.1.1) ∧ (∀ f, x = .inr f → Ay t n tk K (q, U, C, o) = .inr f) := by
  cases x with
  | inl r => exact ⟨fun r' e => by cases e; exact h, fun f e => by cases e⟩
  | inr f => exact ⟨fun r' e => (by cases e), fun f e => by cases e; exact h⟩
theorem B_bad {t : Int → Int} {n tk : Int} {K : Nat} {q : Int × Bool} {U C : List Int} {o : Int} (hK : 0 < K) (h1 : nxt t n (.inl q) ≠ 42) (h2 : nxt t n (.inl q) ≠ 47) (h3 : nxt t n (.inl q) ≠ 43) (h4 : nxt t n (.inl q) ≠ 45) (hb : (brk U = 21 ∨ brk U = 22) ∧ nxt t n (.inl q) ≠ 44 ∨ (brk U = 20 ∨ brk U = 23 ∨ brk U = 24) ∧ nxt t n (.inl q) ≠ 41) :
    By t n tk K (q, U, C, o) = .inr (1, skp t n q.1) := by
  rw [B_nc hK (fun c => by omega)]
  unfold nxtY
  rw [if_neg (by simp only; omega), if_neg (by simp only; omega)]
  rcases hb with hb | hb
  · rw [if_pos hb.1, if_neg hb.2]
  · rw [if_neg (by simp only; omega), if_pos (by simp only; omega)]
theorem B_comma {t : Int → Int} {n tk : Int} {K : Nat} {q : Int × Bool} {U C : List Int} {o : Int} (hK : 0 < K) (hc : nxt t n (.inl q) = 44) (hb : brk U = 21 ∨ brk U = 22) :
    By t n tk K (q, U, C, o) = Ay t n tk K ((skp t n q.1 + 1, false), (brk U + 2) :: (dtbU U).tail, dtbC U C, o) := by
  rw [B_nc hK (fun c => by omega)]
  unfold nxtY
  rw [if_neg (by simp only; omega), if_neg (by simp only; omega), if_pos hb, if_pos hc]
  simp only [if_true]
theorem brk_c {v : Int} {U : List Int} (h : 20 ≤ v ∧ v ≤ 24) : brk (v :: U) = v ∧ dtbU (v :: U) = v :: U ∧ ∀ C, dtbC (v :: U) C = C := ⟨if_pos h, if_pos h, fun _ => if_pos h⟩
theorem partB_sim {t : Int → Int} {n tk : Int} {K : Nat} {o : Int} {ok : Bool} {S P : (Int × Bool) → List Int → RD} (h : ok = true ∧ o ≠ 6 ∧ SSim t n tk K (o + 1) S ∧ PSim t n tk K (o + 1) P ∨ ok = false ∧ o = 6) : PSim t n tk K o (partB t n tk ok S P) := by
  intro q C U hK
  have s1 := skp_ge t n q.1
  have s2 := run_ge isL t n (skp t n q.1)
  have s3 := skp_ge t n (run isL t n (skp t n q.1))
  refine PSim.mk _ ?_
  unfold partB
  by_cases g1 : nxt t n (.inl q) = 40
  · rw [if_pos g1]
    rcases h with ⟨rfl, ho, hS, hP⟩ | ⟨rfl, ho⟩
    · rw [if_pos rfl]
      have hn := lkv_n (t := t) (n := n) (a := skp t n q.1) g1 (by decide)
      obtain ⟨i1, i2⟩ := hS (skp t n q.1 + 1, false) C (20 :: U) (HB_cons (by decide)) (by simp only; omega)
      rw [A_open hK g1 ho]
      cases hx : S (skp t n q.1 + 1, false) C with
      | inr f => exact i2 f hx
      | inl r =>
        obtain ⟨T, C1, j1, j2, j3, j4, j5, j6, j7, j8⟩ := i1 r hx
        simp only at j8 ⊢
        have s4 := skp_ge t n r.1.1
        have eb := brk_app T (20 :: U) j1
        obtain ⟨ed1, ed2⟩ := dtb_app T (20 :: U) C1 j1
        obtain ⟨b1, b2, b3⟩ := brk_c (v := 20) (U := U) (by decide)
        rw [b1] at eb
        rw [b2] at ed1
        rw [b3, j3] at ed2
        rw [j2]
        by_cases g2 : nxt t n (.inl r.1) = 41
        · rw [if_pos g2]
          simp only
          rw [B_close (by omega) g2 (by omega), ed1, ed2, if_pos eb, Int.add_sub_cancel]
          exact ⟨rfl, by omega⟩
        · rw [if_neg g2]
          exact B_bad (by omega) j4 j5 j6 j7 (by omega)
    · rw [if_neg (by decide)]
      exact A_bad hK (pre_bad1 (by omega) g1 ho)
  · rw [if_neg g1]
    by_cases g2 : tw t n (.inl q) = 191594322 ∨ tw t n (.inl q) = 187539624
    · rw [if_pos g2]
      by_cases g3 : nxt t n (.inl (run isL t n (skp t n q.1), true)) = 40
      · rw [if_pos g3]
        rcases h with ⟨rfl, ho, hS, hP⟩ | ⟨rfl, ho⟩
        · rw [if_pos rfl]
          have hn := lkv_n (t := t) (n := n) (a := skp t n (run isL t n (skp t n q.1))) g3 (by decide)
          rw [A_pair hK g1 g2 g3 ho]
          have hv : (if tw t n (.inl q) = 191594322 then (21 : Int) else 22) = 21 ∧ tw t n (.inl q) = 191594322 ∨ (if tw t n (.inl q) = 191594322 then (21 : Int) else 22) = 22 ∧ tw t n (.inl q) ≠ 191594322 := by
            by_cases c : tw t n (.inl q) = 191594322
            · exact Or.inl ⟨if_pos c, c⟩
            · exact Or.inr ⟨if_neg c, c⟩
          generalize (if tw t n (.inl q) = 191594322 then (21 : Int) else 22) = w at hv ⊢
          obtain ⟨i1, i2⟩ := hS (skp t n (run isL t n (skp t n q.1)) + 1, false) C (w :: U) (HB_cons (by omega)) (by simp only; omega)
          cases hx : S (skp t n (run isL t n (skp t n q.1)) + 1, false) C with
          | inr f => exact i2 f hx
          | inl r =>
            obtain ⟨T, C1, j1, j2, j3, j4, j5, j6, j7, j8⟩ := i1 r hx
            simp only at j8 ⊢
            have s4 := skp_ge t n r.1.1
            have eb := brk_app T (w :: U) j1
            obtain ⟨ed1, ed2⟩ := dtb_app T (w :: U) C1 j1
            obtain ⟨b1, b2, b3⟩ := brk_c (v := w) (U := U) (by omega)
            rw [b1] at eb
            rw [b2] at ed1
            rw [b3, j3] at ed2
            rw [j2]
            by_cases g4 : nxt t n (.inl r.1) = 44
            · rw [if_pos g4]
              have hn4 := lkv_n (t := t) (n := n) (a := skp t n r.1.1) g4 (by decide)
              rw [B_comma (by omega) g4 (by omega), ed1, ed2, eb]
              simp only [List.tail_cons]
              obtain ⟨i3, i4⟩ := hS (skp t n r.1.1 + 1, false) r.2 ((w + 2) :: U) (HB_cons (by omega)) (by simp only; omega)
              cases hx2 : S (skp t n r.1.1 + 1, false) r.2 with
              | inr f => exact i4 f hx2
              | inl r2 =>
                obtain ⟨T2, C2, k1, k2, k3, k4, k5, k6, k7, k8⟩ := i3 r2 hx2
                simp only at k8 ⊢
                have s5 := skp_ge t n r2.1.1
                have eb2 := brk_app T2 ((w + 2) :: U) k1
                obtain ⟨ed3, ed4⟩ := dtb_app T2 ((w + 2) :: U) C2 k1
                obtain ⟨b4, b5, b6⟩ := brk_c (v := w + 2) (U := U) (by omega)
                rw [b4] at eb2
                rw [b5] at ed3
                rw [b6, k3] at ed4
                rw [k2]
                by_cases g5 : nxt t n (.inl r2.1) = 41
                · rw [if_pos g5]
                  simp only
                  have ew : (if w + 2 = 23 then (5 : Int) else 6) = (if tw t n (.inl q) = 191594322 then 5 else 6) := by
                    rcases hv with hv | hv
                    · rw [if_pos (by omega), if_pos hv.2]
                    · rw [if_neg (by omega), if_neg hv.2]
                  rw [B_close (by omega) g5 (by omega), ed3, ed4, if_neg (by omega), eb2, Int.add_sub_cancel, ew]
                  exact ⟨rfl, by omega⟩
                · rw [if_neg g5]
                  exact B_bad (by omega) k4 k5 k6 k7 (by omega)
            · rw [if_neg g4]
              exact B_bad (by omega) j4 j5 j6 j7 (by omega)
        · rw [if_neg (by decide)]
          exact A_bad hK (pre_bad2 (by omega) g1 g2 g3 ho)
      · rw [if_neg g3]
        exact A_bad hK (pre_bad3 (by omega) g1 g2 g3)
    · rw [if_neg g2]
      by_cases g3 : tk = 2 ∧ tw t n (.inl q) = 281319642
      · rw [if_pos g3]
        rcases h with ⟨rfl, ho, hS, hP⟩ | ⟨rfl, ho⟩
        · rw [if_pos rfl]
          have lt := goT_lt (tw_w g3.2 (by decide))
          rw [A_spin hK g1 g2 g3 ho]
          obtain ⟨i1, i2⟩ := hP (run isL t n (skp t n q.1), true) C (60 :: U) (by simp only; omega)
          cases hx : P (run isL t n (skp t n q.1), true) C with
          | inr f => exact i2 f hx
          | inl r =>
            obtain ⟨j1, j2⟩ := i1 r hx
            simp only at j2 ⊢
            rw [j1]
            refine ⟨?_, by omega⟩
            unfold Ey
            simp only
            have e1 : epU (60 :: U) = epU U := if_pos (by decide)
            have e2 : epC (60 :: U) r.2 = epC U (60 :: r.2) := if_pos (by decide)
            have e3 : epN (60 :: U) = epN U + 1 := if_pos (by decide)
            rw [e1, e2, e3, show o + 1 - (epN U + 1) = o - epN U by omega]
        · rw [if_neg (by decide)]
          exact A_bad hK (pre_bad4 (by omega) g1 g2 g3 ho)
      · rw [if_neg g3, A_op hK g1 g2 g3]
        cases hx : opY t n tk q C with
        | inr f => rfl
        | inl r => exact ⟨rfl, by have := op_lt hx; omega⟩
theorem part_sim {t : Int → Int} {n tk : Int} {K : Nat} : ∀ (b : Nat) (o : Int), o + b = 6 → PSim t n tk K o (partR t n tk K b)
  | 0, o, h => partB_sim (Or.inr ⟨rfl, by omega⟩)
  | b + 1, o, h => by
    have ih := part_sim (t := t) (n := n) (tk := tk) (K := K) b (o + 1) (by omega)
    exact partB_sim (Or.inl ⟨rfl, by omega, fun q C U hU hK => sum_sim ih hU q C hK, ih⟩)
theorem dwU_base {T : List Int} : brk (T ++ []) = brk ([] : List Int) ↔ brk T = -1 := by rw [List.append_nil]; rfl
/-- a whole sum, at the end of what is open -/
theorem sumsY_sim {t : Int → Int} {n tk : Int} {K : Nat} (b : Nat) {o : Int} (ho : o + b = 6) (q : Int × Bool) (C : List Int) (hK : (n - q.1).toNat < K) :
    sumsY t n tk K (q, C, o) = match sumR t n K (partR t n tk K b) q C with
      | .inr f => .inr f
      | .inl r => .inl (r.1, r.2, o) := by
  obtain ⟨i1, i2⟩ := sum_sim (part_sim (t := t) (n := n) (tk := tk) (K := K) b o ho) HB_nil q C hK
  have e : sumsY t n tk K (q, C, o) = match Ay t n tk K (q, [], C, o) with
    | .inr f => .inr f
    | .inl r => .inl (r.1, dwC tt1 r.2.1 r.2.2.1, r.2.2.2) := rfl
  rw [e]
  cases hx : sumR t n K (partR t n tk K b) q C with
  | inr f => rw [i2 f hx]
  | inl r =>
    obtain ⟨T, C1, j1, j2, j3, j4, j5, j6, j7, j8⟩ := i1 r hx
    have eb := brk_app T [] j1
    have eb2 : brk (T ++ []) = -1 := eb
    rw [j2, B_nc (by omega) (fun c => by omega)]
    have en : nxtY t n (r.1, T ++ [], C1, o) = .inl (false, r.1, T ++ [], C1, o) := by
      unfold nxtY
      rw [if_neg (by simp only; omega), if_neg (by simp only; omega), if_neg (by simp only; omega), if_neg (by simp only; omega)]
    rw [en]
    simp only [Bool.false_eq_true, if_false, List.append_nil, j3]
