/-! ===== how far a formula reaches, how many codes it has ===== -/
def RLn (p : (Int × Bool) → List Int → RD) : Prop := ∀ q C r, p q C = .inl r → (r.2.length : Int) - r.1.1 ≤ C.length - q.1 ∧ C.length < r.2.length
theorem loopR_l {t : Int → Int} {n c1 o1 c2 o2 : Int} {p : (Int × Bool) → List Int → RD} (hp : RLn p) : ∀ (k : Nat) (q : Int × Bool) (C : List Int) (r : (Int × Bool) × List Int), loopR t n p c1 o1 c2 o2 k q C = .inl r → (r.2.length : Int) - r.1.1 ≤ C.length - q.1 ∧ C.length ≤ r.2.length
  | 0, q, C, r, h => by cases h; exact ⟨Int.le_refl _, Nat.le_refl _⟩
  | k + 1, q, C, r, h => by
    have s1 := skp_ge t n q.1
    unfold loopR at h
    by_cases g : nxt t n (.inl q) = c1 ∨ nxt t n (.inl q) = c2
    · rw [if_pos g] at h
      cases hx : p (skp t n q.1 + 1, false) C with
      | inr f => rw [hx] at h; cases h
      | inl r1 =>
        rw [hx] at h
        have h1 := hp _ _ _ hx
        have h2 := loopR_l hp k _ _ _ h
        simp only [List.length_cons] at h1 h2
        omega
    · rw [if_neg g] at h; cases h; exact ⟨Int.le_refl _, Nat.le_refl _⟩
theorem prodR_l {t : Int → Int} {n : Int} {K : Nat} {p : (Int × Bool) → List Int → RD} (hp : RLn p) : RLn (prodR t n K p) := fun q C r h => by
  unfold prodR at h
  cases hx : p q C with
  | inr f => rw [hx] at h; cases h
  | inl r1 =>
    rw [hx] at h
    have h1 := hp _ _ _ hx
    have h2 := loopR_l hp K _ _ _ h
    omega
theorem sumR_l {t : Int → Int} {n : Int} {K : Nat} {p : (Int × Bool) → List Int → RD} (hp : RLn p) : RLn (sumR t n K p) := fun q C r h => by
  unfold sumR at h
  cases hx : prodR t n K p q C with
  | inr f => rw [hx] at h; cases h
  | inl r1 =>
    rw [hx] at h
    have h1 := prodR_l hp _ _ _ hx
    have h2 := loopR_l (prodR_l hp) K _ _ _ h
    omega
theorem partB_l {t : Int → Int} {n tk : Int} {ok : Bool} {S P : (Int × Bool) → List Int → RD} (hS : ok = true → RLn S) (hP : ok = true → RLn P) : RLn (partB t n tk ok S P) := fun q C r h => by
  have s1 := skp_ge t n q.1
  have s2 := run_ge isL t n (skp t n q.1)
  have s3 := skp_ge t n (run isL t n (skp t n q.1))
  unfold partB at h
  by_cases g1 : nxt t n (.inl q) = 40
  · rw [if_pos g1] at h
    cases ok with
    | false => rw [if_neg (by decide)] at h; cases h
    | true =>
      rw [if_pos rfl] at h
      cases hx : S (skp t n q.1 + 1, false) C with
      | inr f => rw [hx] at h; cases h
      | inl r1 =>
        rw [hx] at h
        simp only at h
        have h1 := hS rfl _ _ _ hx
        have s4 := skp_ge t n r1.1.1
        by_cases g2 : nxt t n (.inl r1.1) = 41
        · rw [if_pos g2] at h; cases h; simp only at h1 ⊢; omega
        · rw [if_neg g2] at h; cases h
  · rw [if_neg g1] at h
    by_cases g2 : tw t n (.inl q) = 191594322 ∨ tw t n (.inl q) = 187539624
    · rw [if_pos g2] at h
      by_cases g3 : nxt t n (.inl (run isL t n (skp t n q.1), true)) = 40
      · rw [if_pos g3] at h
        cases ok with
        | false => rw [if_neg (by decide)] at h; cases h
        | true =>
          rw [if_pos rfl] at h
          cases hx : S (skp t n (run isL t n (skp t n q.1)) + 1, false) C with
          | inr f => rw [hx] at h; cases h
          | inl r1 =>
            rw [hx] at h
            simp only at h
            have h1 := hS rfl _ _ _ hx
            have s4 := skp_ge t n r1.1.1
            by_cases g4 : nxt t n (.inl r1.1) = 44
            · rw [if_pos g4] at h
              cases hx2 : S (skp t n r1.1.1 + 1, false) r1.2 with
              | inr f => rw [hx2] at h; cases h
              | inl r2 =>
                rw [hx2] at h
                simp only at h
                have h2 := hS rfl _ _ _ hx2
                have s5 := skp_ge t n r2.1.1
                by_cases g5 : nxt t n (.inl r2.1) = 41
                · rw [if_pos g5] at h; cases h; simp only [List.length_cons] at h1 h2 ⊢; omega
                · rw [if_neg g5] at h; cases h
            · rw [if_neg g4] at h; cases h
      · rw [if_neg g3] at h; cases h
    · rw [if_neg g2] at h
      by_cases g3 : tk = 2 ∧ tw t n (.inl q) = 281319642
      · rw [if_pos g3] at h
        cases ok with
        | false => rw [if_neg (by decide)] at h; cases h
        | true =>
          rw [if_pos rfl] at h
          have lt := goT_lt (tw_w g3.2 (by decide))
          cases hx : P (run isL t n (skp t n q.1), true) C with
          | inr f => rw [hx] at h; cases h
          | inl r1 =>
            rw [hx] at h
            cases h
            have h1 := hP rfl _ _ _ hx
            simp only [List.length_cons] at h1 ⊢; omega
      · rw [if_neg g3] at h
        have h1 := op_len h
        have h2 := op_lt h
        omega
theorem partR_l {t : Int → Int} {n tk : Int} {K : Nat} : ∀ b : Nat, RLn (partR t n tk K b)
  | 0 => partB_l (fun c => by cases c) (fun c => by cases c)
  | b + 1 => partB_l (fun _ => sumR_l (partR_l b)) (fun _ => partR_l b)
theorem loopW_l {t : Int → Int} {n c w : Int} {p : (Int × Bool) → List Int → RD} (hp : RLn p) (hc : c ≠ 0) : ∀ (k : Nat) (q : Int × Bool) (C : List Int) (r : (Int × Bool) × List Int), loopW t n p c w k q C = .inl r → (r.2.length : Int) - r.1.1 ≤ C.length - q.1 ∧ C.length ≤ r.2.length
  | 0, q, C, r, h => by cases h; exact ⟨Int.le_refl _, Nat.le_refl _⟩
  | k + 1, q, C, r, h => by
    unfold loopW at h
    by_cases g : tw t n (.inl q) = c
    · rw [if_pos g] at h
      have lt := goT_lt (tw_w g hc)
      cases hx : p (run isL t n (skp t n q.1), true) C with
      | inr f => rw [hx] at h; cases h
      | inl r1 =>
        rw [hx] at h
        have h1 := hp _ _ _ hx
        have h2 := loopW_l hp hc k _ _ _ h
        simp only [List.length_cons] at h1 h2
        omega
    · rw [if_neg g] at h; cases h; exact ⟨Int.le_refl _, Nat.le_refl _⟩
theorem bothR_l {t : Int → Int} {n : Int} {K : Nat} {p : (Int × Bool) → List Int → RD} (hp : RLn p) : RLn (bothR t n K p) := fun q C r h => by
  unfold bothR at h
  cases hx : p q C with
  | inr f => rw [hx] at h; cases h
  | inl r1 =>
    rw [hx] at h
    have h1 := hp _ _ _ hx
    have h2 := loopW_l hp (by decide) K _ _ _ h
    omega
theorem tstR_l {t : Int → Int} {n : Int} {K : Nat} {p : (Int × Bool) → List Int → RD} (hp : RLn p) : RLn (tstR t n K p) := fun q C r h => by
  unfold tstR at h
  cases hx : bothR t n K p q C with
  | inr f => rw [hx] at h; cases h
  | inl r1 =>
    rw [hx] at h
    have h1 := bothR_l hp _ _ _ hx
    have h2 := loopW_l (bothR_l hp) (by decide) K _ _ _ h
    omega
theorem factB_l {t : Int → Int} {n : Int} {ok : Bool} {S T F : (Int × Bool) → List Int → RD} (hS : RLn S) (hT : ok = true → RLn T) (hF : ok = true → RLn F) : RLn (factB t n ok S T F) := fun q C r h => by
  have s1 := skp_ge t n q.1
  unfold factB at h
  by_cases g1 : nxt t n (.inl q) = 91
  · rw [if_pos g1] at h
    cases ok with
    | false => rw [if_neg (by decide)] at h; cases h
    | true =>
      rw [if_pos rfl] at h
      cases hx : T (skp t n q.1 + 1, false) C with
      | inr f => rw [hx] at h; cases h
      | inl r1 =>
        rw [hx] at h
        simp only at h
        have h1 := hT rfl _ _ _ hx
        have s4 := skp_ge t n r1.1.1
        by_cases g2 : nxt t n (.inl r1.1) = 93
        · rw [if_pos g2] at h; cases h; simp only at h1 ⊢; omega
        · rw [if_neg g2] at h; cases h
  · rw [if_neg g1] at h
    by_cases g2 : tw t n (.inl q) = 209249973
    · rw [if_pos g2] at h
      have lt := goT_lt (tw_w g2 (by decide))
      cases ok with
      | false => rw [if_neg (by decide)] at h; cases h
      | true =>
        rw [if_pos rfl] at h
        cases hx : F (run isL t n (skp t n q.1), true) C with
        | inr f => rw [hx] at h; cases h
        | inl r1 =>
          rw [hx] at h
          cases h
          have h1 := hF rfl _ _ _ hx
          simp only [List.length_cons] at h1 ⊢; omega
    · rw [if_neg g2] at h
      by_cases g3 : tw t n (.inl q) = 20962395
      · rw [if_pos g3] at h
        have lt := goT_lt (tw_w g3 (by decide))
        cases h
        simp only [List.length_cons]; omega
      · rw [if_neg g3] at h
        cases hx : S q C with
        | inr f => rw [hx] at h; cases h
        | inl r1 =>
          rw [hx] at h
          simp only at h
          have h1 := hS _ _ _ hx
          have s4 := skp_ge t n r1.1.1
          by_cases g4 : nxt t n (.inl r1.1) = 60 ∨ nxt t n (.inl r1.1) = 62 ∨ nxt t n (.inl r1.1) = 61
          · rw [if_pos g4] at h
            cases hx2 : S (skp t n r1.1.1 + 1, false) r1.2 with
            | inr f => rw [hx2] at h; cases h
            | inl r2 =>
              rw [hx2] at h
              cases h
              have h2 := hS _ _ _ hx2
              simp only [List.length_cons] at h1 h2 ⊢; omega
          · rw [if_neg g4] at h; cases h
theorem factR_l {t : Int → Int} {n tk : Int} {K : Nat} : ∀ b : Nat, RLn (factR t n tk K b)
  | 0 => factB_l (sumR_l (partR_l 0)) (fun c => by cases c) (fun c => by cases c)
  | b + 1 => factB_l (sumR_l (partR_l (b + 1))) (fun _ => tstR_l (factR_l b)) (fun _ => factR_l b)
theorem fSA_in {t : Int → Int} {n w : Int} {s : SA} {q' : Int × Bool} (h : fSA t n w s = .inl q') : ∃ q r, s = .inl q ∧ fRd t n w q = .inl r ∧ r.1 = q' ∧ fCo t n w s = r.2.reverse ∧ (r.2.length : Int) ≤ q'.1 - q.1 ∧ 0 < r.2.length := by
  cases s with
  | inr f => cases h
  | inl q =>
    unfold fSA at h
    simp only at h
    cases hx : fRd t n w q with
    | inr f => rw [hx] at h; cases h
    | inl r =>
      rw [hx] at h
      cases h
      refine ⟨q, r, rfl, hx, rfl, by unfold fCo; simp only; rw [hx], ?_⟩
      unfold fRd at hx
      by_cases c : w = 1
      · rw [if_pos c] at hx
        have := tstR_l (factR_l 6) _ _ _ hx
        simp only [List.length_nil] at this
        omega
      · rw [if_neg c] at hx
        have := sumR_l (partR_l 6) _ _ _ hx
        simp only [List.length_nil] at this
        omega
/-! ===== the model reads the codes of winds and may ===== -/
theorem Stk.get {I : PF} {a : Int} : ∀ {L : List Int} {k : Int}, Stk I a L k → ∀ i, 0 ≤ i → i < k → I a i = L.reverse.getD i.toNat 0
  | [], k, h, i, i0, i1 => by have : k = 0 := h; omega
  | v :: r, k, h, i, i0, i1 => by
    have hl := Stk.len h.2
    rw [List.reverse_cons]
    by_cases c : i = k - 1
    · have e : i.toNat = r.reverse.length := by rw [List.length_reverse]; omega
      rw [e, List.getD_eq_getElem?_getD, List.getElem?_append_right (Nat.le_refl _), Nat.sub_self]
      rw [c]; exact h.1
    · have ih := Stk.get h.2 i i0 (by omega)
      rw [List.getD_eq_getElem?_getD, List.getElem?_append_left (by rw [List.length_reverse]; omega), ← List.getD_eq_getElem?_getD]
      exact ih
theorem GD_cod {D : PF} {w L : Int} {f : Int → Int} (h : GD D) (hw : w = 0 ∨ w = 1) (hL : 0 < L) (hB : D 306 53 + L ≤ 1600) {D' : PF} (hD : D' = fun x y =>
  if x = 345 ∧ y = w then D 306 53 else if x = 346 ∧ y = w then D 306 53 + L else if x = 306 ∧ y = 53 then D 306 53 + L
  else if x = 347 ∧ D 306 53 ≤ y ∧ y < D 306 53 + L then f y else D x y) : GD D' := by
  obtain ⟨a1, a2, a3, a4, a5, a6, a7, a8, a9, a10, a11, a12⟩ := h
  have u : ∀ x y, D' x y = if x = 345 ∧ y = w then D 306 53 else if x = 346 ∧ y = w then D 306 53 + L else if x = 306 ∧ y = 53 then D 306 53 + L else if x = 347 ∧ D 306 53 ≤ y ∧ y < D 306 53 + L then f y else D x y := fun x y => by rw [hD]
  have e : ∀ x j, x ≠ 345 → x ≠ 346 → x ≠ 306 → x ≠ 347 → D' x j = D x j := fun x j h1 h2 h3 h4 => by
    rw [u, if_neg (fun c => h1 c.1), if_neg (fun c => h2 c.1), if_neg (fun c => h3 c.1), if_neg (fun c => h4 c.1)]
  have e48 : D' 306 48 = D 306 48 := by
    rw [u, if_neg (fun c => by have := c.1; omega), if_neg (fun c => by have := c.1; omega), if_neg (by decide), if_neg (fun c => by have := c.1; omega)]
  have e53 : D' 306 53 = D 306 53 + L := by
    rw [u, if_neg (fun c => by omega), if_neg (fun c => by omega), if_pos ⟨rfl, rfl⟩]
  have e345 : ∀ y, D' 345 y = if y = w then D 306 53 else D 345 y := fun y => by
    rw [u]
    by_cases c : y = w
    · rw [if_pos ⟨rfl, c⟩, if_pos c]
    · rw [if_neg (fun d => c d.2), if_neg (fun d => by omega), if_neg (fun d => by omega), if_neg (fun d => by omega), if_neg c]
  have e346 : ∀ y, D' 346 y = if y = w then D 306 53 + L else D 346 y := fun y => by
    rw [u]
    by_cases c : y = w
    · rw [if_neg (fun d => by omega), if_pos ⟨rfl, c⟩, if_pos c]
    · rw [if_neg (fun d => by omega), if_neg (fun d => c d.2), if_neg (fun d => by omega), if_neg (fun d => by omega), if_neg c]
  have e339 : ∀ j, D' 339 j = D 339 j := fun j => e 339 j (by decide) (by decide) (by decide) (by decide)
  have e340 : ∀ j, D' 340 j = D 340 j := fun j => e 340 j (by decide) (by decide) (by decide) (by decide)
  have e341 : ∀ j, D' 341 j = D 341 j := fun j => e 341 j (by decide) (by decide) (by decide) (by decide)
  have e342 : ∀ j, D' 342 j = D 342 j := fun j => e 342 j (by decide) (by decide) (by decide) (by decide)
  have e343 : ∀ j, D' 343 j = D 343 j := fun j => e 343 j (by decide) (by decide) (by decide) (by decide)
  have e344 : ∀ j, D' 344 j = D 344 j := fun j => e 344 j (by decide) (by decide) (by decide) (by decide)
  have ew : ∀ x y, wlT D' x y ↔ wlT D x y := wlT_c (e339 2) e344
  refine ⟨?_, ?_, ?_, ?_, ?_, ?_, ?_, ?_, ?_, ?_, ?_, ?_⟩
  · simp only [e341]; exact a1
  · simp only [e339]; exact a2
  · simp only [e339, e340]; exact a3
  · simp only [e339, e340]; exact a4
  · simp only [e339, e342]; exact a5
  · simp only [e339, e343, e341, ew]; exact a6
  · simp only [e339, e343]; exact a7
  · simp only [e339, e344, e341]; exact a8
  · rw [e48]; exact a9
  · rw [e53]; omega
  · rw [e345, e346, e53]; rcases hw with rfl | rfl
    · rw [if_pos rfl, if_pos rfl]; omega
    · rw [if_neg (by decide), if_neg (by decide)]; omega
  · rw [e345, e346, e53]; rcases hw with rfl | rfl
    · rw [if_neg (by decide), if_neg (by decide)]; omega
    · rw [if_pos rfl, if_pos rfl]; omega
theorem cpy_loop {X : CX} {d : Nat} {R : PF} {Q : PV → PF → PF → Prop} {w B L : Int} {I0 : PF} (hs : Shp R) (hB : 0 ≤ B ∧ B + L ≤ 1600) (hL : I0 306 104 = L) (hL0 : 0 ≤ L) : ∀ (k : Nat) (x3 : Int) (I : PF), (L - x3).toNat < k → 0 ≤ x3 → x3 ≤ L → I 306 53 = B + x3 → (∀ j, 0 ≤ j → j < x3 → I 347 (B + j) = I0 379 j) → FR (fun x y => (x = 306 ∧ y = 53) ∨ (x = 347 ∧ B ≤ y ∧ y < B + L)) I0 I →
    (∀ I', I' 306 53 = B + L → (∀ j, 0 ≤ j → j < L → I' 347 (B + j) = I0 379 j) → FR (fun x y => (x = 306 ∧ y = 53) ∨ (x = 347 ∧ B ≤ y ∧ y < B + L)) I0 I' → PN X d mX11_codesTold 131 [(2, 306), (0, w)] [] I' R Q) → PN X d mX11_codesTold 92 [(2, 306), (0, w), (9, 0), (0, x3)] [] I R Q := by
  intro k
  induction k with
  | zero => intro x4 I h; exact absurd h (Nat.not_lt_zero _)
  | succ k ih =>
    intro x3 I h h0 h1 h53 hj hf hk
    have e104 : I 306 104 = L := (hf 306 104 (fun c => by omega)).trans hL
    refine S_X11_codesTold_92 (by omega) (by omega) (fun g => ?_) (fun g => ?_)
    · have : x3 = L := by omega
      subst this
      exact hk I h53 hj hf
    · have e1 : (u2 I 347 (I 306 53) (I 379 x3)) 306 53 = I 306 53 := u2_o (by decide)
      have e379 : I 379 x3 = I0 379 x3 := hf 379 x3 (fun c => by omega)
      refine S_X11_codesTold_100 hs (by omega) (by omega) ?_
      rw [e1, h53, e379]
      refine ih (x3 + 1) _ (by omega) (by omega) (by omega) (by rw [u2_at]; omega) (fun j j0 j1 => ?_) (hf.tr (FR.tr (FR_u2 (Or.inr ⟨rfl, by omega, by omega⟩)) (FR_u2 (Or.inl ⟨rfl, rfl⟩)))) hk
      rw [u2_o (by decide)]
      by_cases c : j = x3
      · rw [c, u2_at]
      · rw [u2_j (by omega)]; exact hj j j0 (by omega)
theorem mYT {I J : PF} (h : FR mY I J) : FR mT I J := h.mono (fun x y c => by
  rcases c with c | c
  · exact Or.inl (by unfold mRd at c; unfold mPl; omega)
  · exact Or.inr (Or.inr (Or.inl c)))
theorem tD_y {x y : Int} (h : tD x y) : ¬ mY x y := fun c => by unfold mY mRd mQ at c; unfold tD at h; omega
theorem c_codesTold {X : CX} {I R : PF} {t : Int → Int} {n w b : Int} {s : SA} {D : PF} (hs : Shp R) (h : MG t n s D I) (hw : w = 0 ∨ w = 1) (h53 : ∀ q, s = .inl q → D 306 53 ≤ q.1) :
    CN X 10 mX11_codesTold [(2, 306), (0, w), (0, b)] I R (fun _ I' R' => MO t n (codS t n D w b s) (codD t n D w s) I' ∧ FR mT I I' ∧ R' = R) := by
  refine callee_b (by decide +kernel) (Nat.le_of_ble_eq_true rfl) rfl ?_
  have e345 : I 345 w = D 345 w := h.2.1 345 w (by unfold tD; omega)
  have hn := h.1.1
  obtain ⟨-, -, -, -, -, -, -, -, -, ⟨b53, b54⟩, a11, a12⟩ := h.2.2.2
  cases s with
  | inr f =>
    have e : codS t n D w b (.inr f) = .inr f := by
      unfold codS
      by_cases c : D 345 w ≠ -1
      · exact cif_t c
      · exact cif_f c
    rw [e]
    refine S_X11_codesTold_0 h.1.r5 (fun _ => ?_) (fun g => absurd g h.1.bad)
    refine S_X11_codesTold_23 h.1.r5 (fun g => absurd g h.1.bad) (fun _ => ?_)
    exact S_X11_codesTold_30 ⟨⟨h.1, h.2.2.1⟩, FR.rf, rfl⟩
  | inl q =>
    have r345 : inR (I 345 w) := by rw [e345]; rcases hw with rfl | rfl <;> omega
    refine S_X11_codesTold_0 h.1.r5 (fun g => absurd h.1.ok g) (fun _ => ?_)
    refine S_X11_codesTold_7 hs (by omega) r345 (fun g => ?_) (fun g => ?_)
    rotate_left
    · have e : codS t n D w b (.inl q) = .inr (5, b) := by unfold codS; rw [cif_t (by rw [← e345]; exact g)]; rfl
      rw [e]
      refine S_X11_codesTold_17 (d1 := 1) (by omega) (c_failA h.1 (by decide)) (fun z I2 R2 p => ?_)
      obtain ⟨m1, f1, rfl⟩ := p
      refine S_X11_codesTold_23 m1.r5 (fun g => absurd g m1.bad) (fun _ => ?_)
      exact S_X11_codesTold_30 ⟨⟨m1, h.2.2.1.rd f1⟩, rdT f1, rfl⟩
    have e : codS t n D w b (.inl q) = fSA t n w (.inl q) := by unfold codS; rw [cif_f (by rw [← e345]; exact fun c => c g)]
    rw [e]
    refine S_X11_codesTold_23 h.1.r5 (fun _ => ?_) (fun g => absurd h.1.ok g)
    have fi : FR (fun x y => x = 306 ∧ (y = 56 ∨ y = 104 ∨ y = 106 ∨ y = 107 ∨ y = 108)) I (u2 (u2 (u2 (u2 (u2 I 306 56 w) 306 104 0) 306 106 0) 306 107 0) 306 108 0) := FR.tr (FR.tr (FR.tr (FR.tr (FR_u2 ⟨rfl, by decide⟩) (FR_u2 ⟨rfl, by decide⟩)) (FR_u2 ⟨rfl, by decide⟩)) (FR_u2 ⟨rfl, by decide⟩)) (FR_u2 ⟨rfl, by decide⟩)
    have i56 : (u2 (u2 (u2 (u2 (u2 I 306 56 w) 306 104 0) 306 106 0) 306 107 0) 306 108 0) 306 56 = w := by simp [u2]
    have i104 : (u2 (u2 (u2 (u2 (u2 I 306 56 w) 306 104 0) 306 106 0) 306 107 0) 306 108 0) 306 104 = 0 := by simp [u2]
    have i106 : (u2 (u2 (u2 (u2 (u2 I 306 56 w) 306 104 0) 306 106 0) 306 107 0) 306 108 0) 306 106 = 0 := by simp [u2]
    have i107 : (u2 (u2 (u2 (u2 (u2 I 306 56 w) 306 104 0) 306 106 0) 306 107 0) 306 108 0) 306 107 = 0 := by simp [u2]
    have i108 : (u2 (u2 (u2 (u2 (u2 I 306 56 w) 306 104 0) 306 106 0) 306 107 0) 306 108 0) 306 108 = 0 := by simp [u2]
    generalize hJ : u2 (u2 (u2 (u2 (u2 I 306 56 w) 306 104 0) 306 106 0) 306 107 0) 306 108 0 = J at fi i56 i104 i106 i107 i108
    have mJ : MSt t n (.inl q) J := h.1.fr fi (fun x y c => by omega)
    have cJ : CW J := h.2.2.1.rows (fun a ha => funext fun i => fi a i (fun c => by omega))
    have aJ : AgD D J := h.2.1.fr fi (fun x y c d => by unfold tD at c; omega)
    have q0 := h.1.2.2.1
    have yst : YSt t n w [] (q, [], [], 0) J := ⟨mJ, ⟨i106, i104, i108, (show (((([] : List Int) ++ []).length : Int) + (([] : List Int).length : Int)) ≤ 1650 by decide), fun v hv => absurd hv List.not_mem_nil⟩, i107, i56, by omega, by show (0 : Int) ≤ 0; omega, by show (0 : Int) ≤ 6; omega, by simp only [List.length_nil]; omega, cJ⟩
    have n16 : n ≤ 1600 := hn.2.2.2.1
    have fiT : FR mT I J := fi.mono (fun x y c => by
      rcases c.2 with c2 | c2
      · exact Or.inr (Or.inr (Or.inr ⟨c.1, c2⟩))
      · exact Or.inr (Or.inr (Or.inl (Or.inl ⟨c.1, by omega⟩))))
    have qle := h.1.le
    -- behind the reading
    have fin : ∀ I2 : PF, FRes t n w 2 (fRd t n w q) I2 → FR mY J I2 → PN X 10 mX11_codesTold 72 [(2, 306), (0, w)] [] I2 R (fun _ I' R' => MO t n (fSA t n w (.inl q)) (codD t n D w (.inl q)) I' ∧ FR mT I I' ∧ R' = R) := fun I2 h2 f2 => by
      have a2 : AgD D I2 := aJ.fr f2 (fun x y c => tD_y c)
      cases hF : fRd t n w q with
      | inr fl =>
        rw [hF] at h2
        have h2 : YBd t n w 2 [] fl I2 := h2
        have eF : fSA t n w (.inl q) = .inr fl := by unfold fSA; simp only; rw [hF]
        rw [eF]
        refine S_X11_codesTold_72 h2.1.r5 (fun g => absurd g h2.1.bad) (fun _ => ?_)
        exact S_X11_codesTold_79 ⟨⟨h2.1, h2.2.2.2⟩, fiT.tr (mYT f2), rfl⟩
      | inl r =>
        rw [hF] at h2
        obtain ⟨b1, b2, b3, b4, b5⟩ := h2
        have eF : fSA t n w (.inl q) = .inl r.1 := by unfold fSA; simp only; rw [hF]
        obtain ⟨q', r', c1, c2, c3, c4, c5, c6⟩ := fSA_in eF
        cases c1
        rw [hF] at c2
        cases c2
        have h53' := h53 q rfl
        have rle := b1.le
        have hst : Stk I2 379 r.2 (I2 306 104) := b2.2.1
        have hlen := hst.len
        refine S_X11_codesTold_72 b1.r5 (fun _ => ?_) (fun g => absurd b1.ok g)
        refine S_X11_codesTold_80 hs (by omega) ?_
        have e53 : I2 306 53 = D 306 53 := a2 306 53 (by unfold tD; omega)
        rw [e53]
        have tw1 : tD 345 w := by unfold tD; omega
        refine cpy_loop (B := D 306 53) (L := r.2.length) (I0 := u2 I2 345 w (D 306 53)) hs (by omega) (by rw [u2_o (by decide)]; exact hlen) (by omega) _ 0 _ (Nat.lt_succ_self _) (Int.le_refl _) (by omega) (by rw [u2_o (by decide), e53]; omega) (fun j j0 j1 => by omega) FR.rf (fun I3 k1 k2 k3 => ?_)
        have tw2 : tD 346 w := by unfold tD; omega
        refine S_X11_codesTold_131 hs (by omega) ?_
        rw [k1]
        have fP : FR tD (u2 I2 345 w (D 306 53)) I3 := k3.mono (fun x y c => by unfold tD; omega)
        have fQ : FR tD I2 (u2 I3 346 w (D 306 53 + r.2.length)) := (FR.tr (FR_u2 tw1) fP).tr (FR_u2 tw2)
        have fC : fCo t n w (.inl q) = r.2.reverse := c4
        rw [eF]
        refine ⟨⟨b1.fr fQ (fun x y c => by unfold tD at c; omega), ?_, b5.rows (fun a ha => funext fun i => fQ a i (fun c => by unfold tD at c; omega)), GD_cod (L := (r.2.length : Int)) (f := fun y => (fCo t n w (.inl q)).getD (y - D 306 53).toNat 0) h.2.2.2 hw (by omega) (by omega) (by unfold codD; rw [fC, List.length_reverse])⟩, (fiT.tr (mYT f2)).tr (fQ.mono (fun x y c => Or.inr (Or.inl c))), rfl⟩
        intro x y hxy
        unfold codD
        rw [fC, List.length_reverse]
        by_cases c1 : x = 345 ∧ y = w
        · rw [if_pos c1, c1.1, c1.2, u2_o (by decide), k3 345 w (fun c => by omega), u2_at]
        · rw [if_neg c1]
          by_cases c2 : x = 346 ∧ y = w
          · rw [if_pos c2, c2.1, c2.2, u2_at]
          · rw [if_neg c2]
            have e0 : u2 I3 346 w (D 306 53 + r.2.length) x y = I3 x y := u2_out (by omega)
            rw [e0]
            by_cases c3 : x = 306 ∧ y = 53
            · rw [if_pos c3, c3.1, c3.2]; exact k1
            · rw [if_neg c3]
              by_cases c4 : x = 347 ∧ D 306 53 ≤ y ∧ y < D 306 53 + r.2.length
              · rw [if_pos c4, c4.1]
                have := k2 (y - D 306 53) (by omega) (by omega)
                rw [show D 306 53 + (y - D 306 53) = y by omega, u2_o (by decide)] at this
                rw [this]
                exact hst.get _ (by omega) (by omega)
              · rw [if_neg c4, k3 x y (fun c => c.elim c3 c4), u2_out (by omega)]
                exact a2 x y hxy
    have hKq : (n - q.1).toNat < 1601 := by omega
    refine S_X11_codesTold_31 (by omega) (fun g1 => ?_) (fun g1 => ?_)
    · rw [hJ]
      have w0 : w = 0 := by omega
      refine S_X11_codesTold_68 (d1 := 7) (by omega) (c_qSums0 (K := 1601) hs (by omega) yst) (fun z I2 R2 p => ?_)
      obtain ⟨p1, p2, rfl⟩ := p
      rw [sumZ_F hKq] at p1
      refine fin I2 ?_ p2
      subst w0
      unfold fRd; rw [if_neg (by decide)]; exact p1
    · rw [hJ]
      refine S_X11_codesTold_61 (d1 := 9) (by omega) (c_qTest (K := 1601) hs (by omega) yst) (fun z I2 R2 p => ?_)
      obtain ⟨p1, p2, rfl⟩ := p
      rw [testY_F hKq] at p1
      refine S_X11_codesTold_65 (fin I2 ?_ p2)
      subst g1
      unfold fRd; rw [if_pos rfl]; exact p1
