/-! ===== the machine's course from a place on ===== -/
noncomputable def Ay (t : Int → Int) (n tk : Int) (K : Nat) (y : Y4) : Y4 ⊕ (Int × Int) := sumsL t n tk K K y
noncomputable def By (t : Int → Int) (n tk : Int) (K : Nat) (y : Y4) : Y4 ⊕ (Int × Int) := match goesY t n K y with
  | .inr f => .inr f
  | .inl r => if r.1 = true then Ay t n tk K r.2 else .inl r.2
noncomputable def Ey (t : Int → Int) (n tk : Int) (K : Nat) (y : Y4) : Y4 ⊕ (Int × Int) := By t n tk K (y.1, epU y.2.1, epC y.2.1 y.2.2.1, y.2.2.2 - epN y.2.1)
theorem A_eq {t : Int → Int} {n tk : Int} {K : Nat} {y : Y4} (hK : (n - y.1.1).toNat < K) : Ay t n tk K y = match partY t n tk K y with
    | .inr f => .inr f
    | .inl y1 => By t n tk K y1 := by
  unfold Ay
  obtain ⟨k, rfl⟩ : ∃ k, K = k + 1 := ⟨K - 1, by omega⟩
  rw [sumsL]
  cases hp : partY t n tk (k + 1) y with
  | inr f => rfl
  | inl y1 =>
    simp only
    have h1 := part_lt hp
    have h2 := part_n hp
    unfold By
    cases hg : goesY t n (k + 1) y1 with
    | inr f => rfl
    | inl r =>
      obtain ⟨b, y2⟩ := r
      have h3 := goes_le hg
      cases b with
      | true => simp only [if_true]; unfold Ay; exact sumsL_fuel k (k + 1) y2 (by omega) (by omega)
      | false => simp only [Bool.false_eq_true, if_false]
theorem A_pre {t : Int → Int} {n tk : Int} {K : Nat} {q q' : Int × Bool} {U U' C : List Int} {o o' : Int} (hK : (n - q.1).toNat < K) (hK' : (n - q'.1).toNat < K) (h : preY t n tk K q U o = preY t n tk K q' U' o') : Ay t n tk K (q, U, C, o) = Ay t n tk K (q', U', C, o') := by
  rw [A_eq hK, A_eq hK']
  have e : partY t n tk K (q, U, C, o) = partY t n tk K (q', U', C, o') := by unfold partY; simp only [h]
  rw [e]
theorem A_open {t : Int → Int} {n tk : Int} {K : Nat} {q : Int × Bool} {U C : List Int} {o : Int} (hK : (n - q.1).toNat < K) (hc : nxt t n (.inl q) = 40) (ho : o ≠ 6) : Ay t n tk K (q, U, C, o) = Ay t n tk K ((skp t n q.1 + 1, false), 20 :: U, C, o + 1) := by
  have s1 := skp_ge t n q.1
  have hn := lkv_n (t := t) (n := n) (a := skp t n q.1) hc (by decide)
  refine A_pre hK (by simp only; omega) ?_
  obtain ⟨k, rfl⟩ : ∃ k, K = k + 1 := ⟨K - 1, by omega⟩
  rw [preY, if_pos hc, if_neg ho]
  exact pre_fuel k (k + 1) _ _ _ (by simp only; omega) (by simp only; omega)
theorem A_pair {t : Int → Int} {n tk : Int} {K : Nat} {q : Int × Bool} {U C : List Int} {o : Int} (hK : (n - q.1).toNat < K) (h0 : nxt t n (.inl q) ≠ 40) (hw : tw t n (.inl q) = 191594322 ∨ tw t n (.inl q) = 187539624) (hc : nxt t n (.inl (run isL t n (skp t n q.1), true)) = 40) (ho : o ≠ 6) :
    Ay t n tk K (q, U, C, o) = Ay t n tk K ((skp t n (run isL t n (skp t n q.1)) + 1, false), (if tw t n (.inl q) = 191594322 then 21 else 22) :: U, C, o + 1) := by
  have s1 := skp_ge t n q.1
  have s2 := run_ge isL t n (skp t n q.1)
  have s3 := skp_ge t n (run isL t n (skp t n q.1))
  have hn := lkv_n (t := t) (n := n) (a := skp t n (run isL t n (skp t n q.1))) hc (by decide)
  refine A_pre hK (by simp only; omega) ?_
  obtain ⟨k, rfl⟩ : ∃ k, K = k + 1 := ⟨K - 1, by omega⟩
  rw [preY, if_neg h0, if_pos hw, if_pos hc, if_neg ho]
  exact pre_fuel k (k + 1) _ _ _ (by simp only; omega) (by simp only; omega)
theorem A_spin {t : Int → Int} {n tk : Int} {K : Nat} {q : Int × Bool} {U C : List Int} {o : Int} (hK : (n - q.1).toNat < K) (h0 : nxt t n (.inl q) ≠ 40) (hw : ¬ (tw t n (.inl q) = 191594322 ∨ tw t n (.inl q) = 187539624)) (hc : tk = 2 ∧ tw t n (.inl q) = 281319642) (ho : o ≠ 6) :
    Ay t n tk K (q, U, C, o) = Ay t n tk K ((run isL t n (skp t n q.1), true), 60 :: U, C, o + 1) := by
  have s1 := skp_ge t n q.1
  have lt := goT_lt (tw_w hc.2 (by decide))
  refine A_pre hK (by simp only; omega) ?_
  obtain ⟨k, rfl⟩ : ∃ k, K = k + 1 := ⟨K - 1, by omega⟩
  rw [preY, if_neg h0, if_neg hw, if_pos hc, if_neg ho]
  exact pre_fuel k (k + 1) _ _ _ (by simp only; omega) (by simp only; omega)
theorem A_op {t : Int → Int} {n tk : Int} {K : Nat} {q : Int × Bool} {U C : List Int} {o : Int} (hK : (n - q.1).toNat < K) (h0 : nxt t n (.inl q) ≠ 40) (hw : ¬ (tw t n (.inl q) = 191594322 ∨ tw t n (.inl q) = 187539624)) (hc : ¬ (tk = 2 ∧ tw t n (.inl q) = 281319642)) :
    Ay t n tk K (q, U, C, o) = match opY t n tk q C with
      | .inr f => .inr f
      | .inl r => Ey t n tk K (r.1, U, r.2, o) := by
  rw [A_eq hK]
  obtain ⟨k, rfl⟩ : ∃ k, K = k + 1 := ⟨K - 1, by omega⟩
  have e : preY t n tk (k + 1) q U o = .inl (q, U, o) := by rw [preY, if_neg h0, if_neg hw, if_neg hc]
  unfold partY
  simp only [e]
  cases opY t n tk q C with
  | inr f => rfl
  | inl r => rfl
theorem A_bad {t : Int → Int} {n tk : Int} {K : Nat} {q : Int × Bool} {U C : List Int} {o : Int} {f : Int × Int} (hK : (n - q.1).toNat < K) (h : preY t n tk K q U o = .inr f) : Ay t n tk K (q, U, C, o) = .inr f := by
  rw [A_eq hK]
  unfold partY
  simp only [h]
theorem B_close {t : Int → Int} {n tk : Int} {K : Nat} {q : Int × Bool} {U C : List Int} {o : Int} (hK : (n - q.1).toNat < K) (hc : nxt t n (.inl q) = 41) (hb : brk U = 20 ∨ brk U = 23 ∨ brk U = 24) :
    By t n tk K (q, U, C, o) = Ey t n tk K ((skp t n q.1 + 1, false), (dtbU U).tail, (if brk U = 20 then dtbC U C else (if brk U = 23 then 5 else 6) :: dtbC U C), o - 1) := by
  have s1 := skp_ge t n q.1
  have hn := lkv_n (t := t) (n := n) (a := skp t n q.1) hc (by decide)
  have e : goesY t n K (q, U, C, o) = goesY t n K ((skp t n q.1 + 1, false), epU (dtbU U).tail, epC (dtbU U).tail (if brk U = 20 then dtbC U C else (if brk U = 23 then 5 else 6) :: dtbC U C), o - 1 - epN (dtbU U).tail) := by
    unfold goesY
    obtain ⟨k, rfl⟩ : ∃ k, K = k + 1 := ⟨K - 1, by omega⟩
    rw [clsY, if_pos ⟨hc, hb⟩]
    rw [cls_fuel k (k + 1) _ (by simp only; omega) (by simp only; omega)]
  unfold Ey By
  rw [e]
theorem B_nc {t : Int → Int} {n tk : Int} {K : Nat} {q : Int × Bool} {U C : List Int} {o : Int} (hK : 0 < K) (hc : ¬ (nxt t n (.inl q) = 41 ∧ (brk U = 20 ∨ brk U = 23 ∨ brk U = 24))) :
    By t n tk K (q, U, C, o) = match nxtY t n (q, U, C, o) with
      | .inr f => .inr f
      | .inl r => if r.1 = true then Ay t n tk K r.2 else .inl r.2 := by
  have e : goesY t n K (q, U, C, o) = nxtY t n (q, U, C, o) := by
    unfold goesY
    obtain ⟨k, rfl⟩ : ∃ k, K = k + 1 := ⟨K - 1, by omega⟩
    rw [clsY, if_neg hc]
  unfold By
  rw [e]
