/-! ===== the model takes over what was told ===== -/
theorem MSt.b6 {t : Int → Int} {n : Int} {q : Int × Bool} {I : PF} (h : MSt t n (.inl q) I) : I 306 6 = -1 := h.1.2.2.2.2.2.2.2.2.2 h.ok
theorem st_many {X : CX} {d : Nat} {R : PF} {Q : PV → PF → PF → Prop} {I0 : PF} (hs : Shp R) : ∀ (k : Nat) (x1 : Int) (I : PF), (3 - x1).toNat < k → 0 ≤ x1 → x1 ≤ 3 → (∀ j, 0 ≤ j → j < x1 → I 339 (3 + j) = I0 339 j) → FR (fun x y => x = 339 ∧ 3 ≤ y ∧ y < 3 + 3) I0 I →
    (∀ I', (∀ j, 0 ≤ j → j < 3 → I' 339 (3 + j) = I0 339 j) → FR (fun x y => x = 339 ∧ 3 ≤ y ∧ y < 3 + 3) I0 I' → PN X d mX11_stands 32 [(2, 306)] [] I' R Q) → PN X d mX11_stands 7 [(2, 306), (0, x1)] [] I R Q := by
  intro k
  induction k with
  | zero => intro x4 I h; exact absurd h (Nat.not_lt_zero _)
  | succ k ih =>
    intro x1 I h h0 h1 hj hf hk
    refine S_X11_stands_7 (by omega) (fun g => ?_) (fun g => ?_)
    · have : x1 = 3 := by omega
      subst this
      exact hk I hj hf
    · have es : I 339 x1 = I0 339 x1 := hf 339 x1 (fun c => by omega)
      refine S_X11_stands_12 hs (by omega) (by omega) ?_
      rw [es]
      refine ih (x1 + 1) _ (by omega) (by omega) (by omega) (fun j j0 j1 => ?_) (hf.tr (FR_u2 ⟨rfl, by omega, by omega⟩)) hk
      by_cases c : j = x1
      · rw [c, u2_at]
      · rw [u2_j (by omega)]; exact hj j j0 (by omega)
theorem st_names {X : CX} {d : Nat} {R : PF} {Q : PV → PF → PF → Prop} {I0 : PF} (hs : Shp R) : ∀ (k : Nat) (x1 : Int) (I : PF), (12 - x1).toNat < k → 0 ≤ x1 → x1 ≤ 12 → (∀ j, 0 ≤ j → j < x1 → I 340 (12 + j) = I0 340 j) → FR (fun x y => x = 340 ∧ 12 ≤ y ∧ y < 12 + 12) I0 I →
    (∀ I', (∀ j, 0 ≤ j → j < 12 → I' 340 (12 + j) = I0 340 j) → FR (fun x y => x = 340 ∧ 12 ≤ y ∧ y < 12 + 12) I0 I' → PN X d mX11_stands 61 [(2, 306)] [] I' R Q) → PN X d mX11_stands 34 [(2, 306), (0, x1)] [] I R Q := by
  intro k
  induction k with
  | zero => intro x4 I h; exact absurd h (Nat.not_lt_zero _)
  | succ k ih =>
    intro x1 I h h0 h1 hj hf hk
    refine S_X11_stands_34 (by omega) (fun g => ?_) (fun g => ?_)
    · have : x1 = 12 := by omega
      subst this
      exact hk I hj hf
    · have es : I 340 x1 = I0 340 x1 := hf 340 x1 (fun c => by omega)
      refine S_X11_stands_40 hs (by omega) (by omega) ?_
      rw [es]
      refine ih (x1 + 1) _ (by omega) (by omega) (by omega) (fun j j0 j1 => ?_) (hf.tr (FR_u2 ⟨rfl, by omega, by omega⟩)) hk
      by_cases c : j = x1
      · rw [c, u2_at]
      · rw [u2_j (by omega)]; exact hj j j0 (by omega)
theorem st_side {X : CX} {d : Nat} {R : PF} {Q : PV → PF → PF → Prop} {I0 : PF} (hs : Shp R) : ∀ (k : Nat) (x1 : Int) (I : PF), (5 - x1).toNat < k → 0 ≤ x1 → x1 ≤ 5 → (∀ j, 0 ≤ j → j < x1 → I 341 (5 + j) = I0 341 j) → FR (fun x y => x = 341 ∧ 5 ≤ y ∧ y < 5 + 5) I0 I →
    (∀ I', (∀ j, 0 ≤ j → j < 5 → I' 341 (5 + j) = I0 341 j) → FR (fun x y => x = 341 ∧ 5 ≤ y ∧ y < 5 + 5) I0 I' → PN X d mX11_stands 88 [(2, 306)] [] I' R Q) → PN X d mX11_stands 63 [(2, 306), (0, x1)] [] I R Q := by
  intro k
  induction k with
  | zero => intro x4 I h; exact absurd h (Nat.not_lt_zero _)
  | succ k ih =>
    intro x1 I h h0 h1 hj hf hk
    refine S_X11_stands_63 (by omega) (fun g => ?_) (fun g => ?_)
    · have : x1 = 5 := by omega
      subst this
      exact hk I hj hf
    · have es : I 341 x1 = I0 341 x1 := hf 341 x1 (fun c => by omega)
      refine S_X11_stands_68 hs (by omega) (by omega) ?_
      rw [es]
      refine ih (x1 + 1) _ (by omega) (by omega) (by omega) (fun j j0 j1 => ?_) (hf.tr (FR_u2 ⟨rfl, by omega, by omega⟩)) hk
      by_cases c : j = x1
      · rw [c, u2_at]
      · rw [u2_j (by omega)]; exact hj j j0 (by omega)
theorem st_people {X : CX} {d : Nat} {R : PF} {Q : PV → PF → PF → Prop} {I0 : PF} (hs : Shp R) : ∀ (k : Nat) (x1 : Int) (I : PF), (24 - x1).toNat < k → 0 ≤ x1 → x1 ≤ 24 → (∀ j, 0 ≤ j → j < x1 → I 342 (24 + j) = I0 342 j) → FR (fun x y => x = 342 ∧ 24 ≤ y ∧ y < 24 + 24) I0 I →
    (∀ I', (∀ j, 0 ≤ j → j < 24 → I' 342 (24 + j) = I0 342 j) → FR (fun x y => x = 342 ∧ 24 ≤ y ∧ y < 24 + 24) I0 I' → PN X d mX11_stands 117 [(2, 306)] [] I' R Q) → PN X d mX11_stands 90 [(2, 306), (0, x1)] [] I R Q := by
  intro k
  induction k with
  | zero => intro x4 I h; exact absurd h (Nat.not_lt_zero _)
  | succ k ih =>
    intro x1 I h h0 h1 hj hf hk
    refine S_X11_stands_90 (by omega) (fun g => ?_) (fun g => ?_)
    · have : x1 = 24 := by omega
      subst this
      exact hk I hj hf
    · have es : I 342 x1 = I0 342 x1 := hf 342 x1 (fun c => by omega)
      refine S_X11_stands_96 hs (by omega) (by omega) ?_
      rw [es]
      refine ih (x1 + 1) _ (by omega) (by omega) (by omega) (fun j j0 j1 => ?_) (hf.tr (FR_u2 ⟨rfl, by omega, by omega⟩)) hk
      by_cases c : j = x1
      · rw [c, u2_at]
      · rw [u2_j (by omega)]; exact hj j j0 (by omega)
theorem st_walls {X : CX} {d : Nat} {R : PF} {Q : PV → PF → PF → Prop} {I0 : PF} (hs : Shp R) : ∀ (k : Nat) (x1 : Int) (I : PF), (20 - x1).toNat < k → 0 ≤ x1 → x1 ≤ 20 → (∀ j, 0 ≤ j → j < x1 → I 344 (20 + j) = I0 344 j) → FR (fun x y => x = 344 ∧ 20 ≤ y ∧ y < 20 + 20) I0 I →
    (∀ I', (∀ j, 0 ≤ j → j < 20 → I' 344 (20 + j) = I0 344 j) → FR (fun x y => x = 344 ∧ 20 ≤ y ∧ y < 20 + 20) I0 I' → PN X d mX11_stands 146 [(2, 306)] [] I' R Q) → PN X d mX11_stands 119 [(2, 306), (0, x1)] [] I R Q := by
  intro k
  induction k with
  | zero => intro x4 I h; exact absurd h (Nat.not_lt_zero _)
  | succ k ih =>
    intro x1 I h h0 h1 hj hf hk
    refine S_X11_stands_119 (by omega) (fun g => ?_) (fun g => ?_)
    · have : x1 = 20 := by omega
      subst this
      exact hk I hj hf
    · have es : I 344 x1 = I0 344 x1 := hf 344 x1 (fun c => by omega)
      refine S_X11_stands_125 hs (by omega) (by omega) ?_
      rw [es]
      refine ih (x1 + 1) _ (by omega) (by omega) (by omega) (fun j j0 j1 => ?_) (hf.tr (FR_u2 ⟨rfl, by omega, by omega⟩)) hk
      by_cases c : j = x1
      · rw [c, u2_at]
      · rw [u2_j (by omega)]; exact hj j j0 (by omega)
theorem st_codes {X : CX} {d : Nat} {R : PF} {Q : PV → PF → PF → Prop} {I0 : PF} {L : Int} (hs : Shp R) (hL : I0 306 53 = L) (hL1 : 0 ≤ L ∧ L ≤ 1600) : ∀ (k : Nat) (x1 : Int) (I : PF), (L - x1).toNat < k → 0 ≤ x1 → x1 ≤ L → (∀ j, 0 ≤ j → j < x1 → I 347 (1600 + j) = I0 347 j) → FR (fun x y => x = 347 ∧ 1600 ≤ y ∧ y < 1600 + L) I0 I →
    (∀ I', (∀ j, 0 ≤ j → j < L → I' 347 (1600 + j) = I0 347 j) → FR (fun x y => x = 347 ∧ 1600 ≤ y ∧ y < 1600 + L) I0 I' → PN X d mX11_stands 227 [(2, 306)] [] I' R Q) → PN X d mX11_stands 197 [(2, 306), (0, x1)] [] I R Q := by
  intro k
  induction k with
  | zero => intro x4 I h; exact absurd h (Nat.not_lt_zero _)
  | succ k ih =>
    intro x1 I h h0 h1 hj hf hk
    have e53 : I 306 53 = L := (hf 306 53 (fun c => by omega)).trans hL
    refine S_X11_stands_197 (by omega) (by omega) (fun g => ?_) (fun g => ?_)
    · have : x1 = L := by omega
      subst this
      exact hk I hj hf
    · have es : I 347 x1 = I0 347 x1 := hf 347 x1 (fun c => by omega)
      refine S_X11_stands_205 hs (by omega) (by omega) ?_
      rw [es]
      refine ih (x1 + 1) _ (by omega) (by omega) (by omega) (fun j j0 j1 => ?_) (hf.tr (FR_u2 ⟨rfl, by omega, by omega⟩)) hk
      by_cases c : j = x1
      · rw [c, u2_at]
      · rw [u2_j (by omega)]; exact hj j j0 (by omega)
theorem st_froms {X : CX} {d : Nat} {R : PF} {Q : PV → PF → PF → Prop} {I0 : PF} (hs : Shp R) : ∀ (k : Nat) (x1 : Int) (I : PF), (2 - x1).toNat < k → 0 ≤ x1 → x1 ≤ 2 → (∀ j, 0 ≤ j → j < x1 → I 345 (2 + j) = I0 345 j ∧ I 346 (2 + j) = I0 346 j) → FR (fun x y => (x = 345 ∨ x = 346) ∧ 2 ≤ y ∧ y < 4) I0 I →
    (∀ I', (∀ j, 0 ≤ j → j < 2 → I' 345 (2 + j) = I0 345 j ∧ I' 346 (2 + j) = I0 346 j) → FR (fun x y => (x = 345 ∨ x = 346) ∧ 2 ≤ y ∧ y < 4) I0 I' → PN X d mX11_stands 195 [(2, 306)] [] I' R Q) → PN X d mX11_stands 156 [(2, 306), (0, x1)] [] I R Q := by
  intro k
  induction k with
  | zero => intro x4 I h; exact absurd h (Nat.not_lt_zero _)
  | succ k ih =>
    intro x1 I h h0 h1 hj hf hk
    refine S_X11_stands_156 (by omega) (fun g => ?_) (fun g => ?_)
    · have : x1 = 2 := by omega
      subst this
      exact hk I hj hf
    · have es : I 345 x1 = I0 345 x1 := hf 345 x1 (fun c => by omega)
      have es2 : (u2 I 345 (2 + x1) (I 345 x1)) 346 x1 = I0 346 x1 := by rw [u2_o (by decide)]; exact hf 346 x1 (fun c => by omega)
      refine S_X11_stands_161 hs (by omega) (by omega) ?_
      rw [es2, es]
      refine ih (x1 + 1) _ (by omega) (by omega) (by omega) (fun j j0 j1 => ?_) (hf.tr (FR.tr (FR_u2 ⟨Or.inl rfl, by omega, by omega⟩) (FR_u2 ⟨Or.inr rfl, by omega, by omega⟩))) hk
      by_cases c : j = x1
      · rw [c, u2_o (by decide), u2_at, u2_at]; exact ⟨rfl, rfl⟩
      · rw [u2_o (by decide), u2_j (by omega), u2_j (by omega), u2_o (by decide)]; exact hj j j0 (by omega)
theorem st_zero {X : CX} {d : Nat} {R : PF} {Q : PV → PF → PF → Prop} {I0 : PF} (hs : Shp R) : ∀ (k : Nat) (x1 : Int) (I : PF), (154 - x1).toNat < k → 0 ≤ x1 → x1 ≤ 154 → (∀ j, 0 ≤ j → j < x1 → I 348 j = 0) → FR (fun x y => x = 348) I0 I →
    (∀ I', (∀ j, 0 ≤ j → j < 154 → I' 348 j = 0) → FR (fun x y => x = 348) I0 I' → PN X d mX11_stands 249 [(2, 306)] [] I' R Q) → PN X d mX11_stands 229 [(2, 306), (0, x1)] [] I R Q := by
  intro k
  induction k with
  | zero => intro x4 I h; exact absurd h (Nat.not_lt_zero _)
  | succ k ih =>
    intro x1 I h h0 h1 hj hf hk
    refine S_X11_stands_229 (by omega) (fun g => ?_) (fun g => ?_)
    · have : x1 = 154 := by omega
      subst this
      exact hk I hj hf
    · refine S_X11_stands_236 hs (by omega) ?_
      refine ih (x1 + 1) _ (by omega) (by omega) (by omega) (fun j j0 j1 => ?_) (hf.tr (FR_u2 rfl)) hk
      by_cases c : j = x1
      · rw [c, u2_at]
      · rw [u2_j (by omega)]; exact hj j j0 (by omega)
theorem st_row {X : CX} {d : Nat} {R : PF} {Q : PV → PF → PF → Prop} {I0 : PF} {p : Int} (hs : Shp R) (hp : 0 ≤ p ∧ p < 6) : ∀ (k : Nat) (x2 : Int) (I : PF), (4 - x2).toNat < k → 0 ≤ x2 → x2 ≤ 4 → (∀ j, 0 ≤ j → j < x2 → I 348 (3 + 5 * p + j) = I0 343 (4 * p + j)) → FR (fun x y => x = 348 ∧ 3 + 5 * p ≤ y ∧ y < 3 + 5 * p + 4) I0 I →
    (∀ I', (∀ j, 0 ≤ j → j < 4 → I' 348 (3 + 5 * p + j) = I0 343 (4 * p + j)) → FR (fun x y => x = 348 ∧ 3 + 5 * p ≤ y ∧ y < 3 + 5 * p + 4) I0 I' → PN X d mX11_stands 303 [(2, 306), (0, p)] [] I' R Q) → PN X d mX11_stands 270 [(2, 306), (0, p), (0, x2)] [] I R Q := by
  intro k
  induction k with
  | zero => intro x4 I h; exact absurd h (Nat.not_lt_zero _)
  | succ k ih =>
    intro x2 I h h0 h1 hj hf hk
    refine S_X11_stands_270 (by omega) (fun g => ?_) (fun g => ?_)
    · have : x2 = 4 := by omega
      subst this
      exact hk I hj hf
    · have es : I 343 (4 * p + x2) = I0 343 (4 * p + x2) := hf 343 _ (fun c => by omega)
      refine S_X11_stands_275 hs (by omega) (by omega) ?_
      rw [es]
      refine ih (x2 + 1) _ (by omega) (by omega) (by omega) (fun j j0 j1 => ?_) (hf.tr (FR_u2 ⟨rfl, by omega, by omega⟩)) hk
      by_cases c : j = x2
      · rw [c, u2_at]
      · rw [u2_j (by omega)]; exact hj j j0 (by omega)
theorem st_rows {X : CX} {d : Nat} {R : PF} {Q : PV → PF → PF → Prop} {I0 : PF} {m : Int} (hs : Shp R) (hm : I0 339 1 = m) (hm6 : 0 ≤ m ∧ m ≤ 6) : ∀ (k : Nat) (x1 : Int) (I : PF), (m - x1).toNat < k → 0 ≤ x1 → x1 ≤ m → (∀ p j, 0 ≤ p → p < x1 → 0 ≤ j → j < 4 → I 348 (3 + 5 * p + j) = I0 343 (4 * p + j)) → FR (fun x y => x = 348 ∧ ∃ p j, 0 ≤ p ∧ p < 6 ∧ 0 ≤ j ∧ j < 4 ∧ y = 3 + 5 * p + j) I0 I →
    (∀ I', (∀ p j, 0 ≤ p → p < m → 0 ≤ j → j < 4 → I' 348 (3 + 5 * p + j) = I0 343 (4 * p + j)) → FR (fun x y => x = 348 ∧ ∃ p j, 0 ≤ p ∧ p < 6 ∧ 0 ≤ j ∧ j < 4 ∧ y = 3 + 5 * p + j) I0 I' → PN X d mX11_stands 309 [(2, 306)] [] I' R Q) → PN X d mX11_stands 258 [(2, 306), (0, x1)] [] I R Q := by
  intro k
  induction k with
  | zero => intro x4 I h; exact absurd h (Nat.not_lt_zero _)
  | succ k ih =>
    intro x1 I h h0 h1 hj hf hk
    have em : I 339 1 = m := (hf 339 1 (fun c => by omega)).trans hm
    refine S_X11_stands_258 hs (by omega) (by omega) (fun g => ?_) (fun g => ?_)
    · have : x1 = m := by omega
      subst this
      exact hk I hj hf
    · refine S_X11_stands_268 (st_row (p := x1) (I0 := I) hs (by omega) _ 0 I (Nat.lt_succ_self _) (Int.le_refl _) (by decide) (fun j j0 j1 => by omega) FR.rf (fun I' k1 k2 => ?_))
      refine S_X11_stands_303 (ih (x1 + 1) I' (by omega) (by omega) (by omega) (fun p j p0 p1 j0 j1 => ?_) (hf.tr (k2.mono (fun x y c => ⟨c.1, x1, y - (3 + 5 * x1), by omega, by omega, by omega, by omega, by omega⟩))) hk)
      by_cases c : p = x1
      · rw [c, k1 j j0 j1]; exact hf 343 _ (fun c => by omega)
      · rw [k2 348 _ (fun c => by omega)]; exact hj p j p0 (by omega) j0 j1
/-- the cells that stand for a square tell D, and how all stands as it begins -/
def ST (D I : PF) : Prop := I 306 55 = 1 ∧ (∀ j, 0 ≤ j → j < 3 → I 339 (3 + j) = D 339 j) ∧ (∀ j, 0 ≤ j → j < 12 → I 340 (12 + j) = D 340 j) ∧ (∀ j, 0 ≤ j → j < 5 → I 341 (5 + j) = D 341 j) ∧ (∀ j, 0 ≤ j → j < 24 → I 342 (24 + j) = D 342 j) ∧ (∀ j, 0 ≤ j → j < 20 → I 344 (20 + j) = D 344 j) ∧ I 306 49 = D 306 48 ∧
  (∀ j, 0 ≤ j → j < 2 → I 345 (2 + j) = D 345 j ∧ I 346 (2 + j) = D 346 j) ∧ (∀ j, 0 ≤ j → j < D 306 53 → I 347 (1600 + j) = D 347 j)
def ST0 (D I : PF) : Prop := I 348 0 = 0 ∧ I 348 1 = -1 ∧ I 348 2 = 0 ∧ I 348 33 = 0 ∧ (∀ p j, 0 ≤ p → p < D 339 1 → 0 ≤ j → j < 4 → I 348 (3 + 5 * p + j) = D 343 (4 * p + j)) ∧ (∀ p, 0 ≤ p → p < 6 → I 348 (3 + 5 * p + 4) = 0) ∧ I 306 76 = 0 ∧ I 306 73 = 0
def mSt (x y : Int) : Prop := (x = 306 ∧ (y = 55 ∨ y = 49 ∨ y = 76 ∨ y = 73)) ∨ (x = 339 ∧ 3 ≤ y) ∨ (x = 340 ∧ 12 ≤ y) ∨ (x = 341 ∧ 5 ≤ y) ∨ (x = 342 ∧ 24 ≤ y) ∨ (x = 344 ∧ 20 ≤ y) ∨ ((x = 345 ∨ x = 346) ∧ 2 ≤ y) ∨ (x = 347 ∧ 1600 ≤ y) ∨ x = 348
theorem c_stands {X : CX} {I R : PF} {D : PF} (hs : Shp R) (hD : AgD D I) (hG : GD D) : CN X 0 mX11_stands [(2, 306)] I R (fun _ I' R' => ST D I' ∧ ST0 D I' ∧ FR mSt I I' ∧ R' = R) := by
  refine callee_b (by decide +kernel) (Nat.le_of_ble_eq_true rfl) rfl ?_
  obtain ⟨-, ⟨-, -, r1, r2, -⟩, -, -, -, -, -, -, -, ⟨r3, r4⟩, -, -⟩ := hG
  have td : ∀ {x y : Int}, tD x y → I x y = D x y := fun {x y} h => hD x y h
  refine S_X11_stands_0 ?_
  refine st_many (I0 := u2 I 306 55 1) hs _ 0 _ (Nat.lt_succ_self _) (Int.le_refl _) (by decide) (fun j j0 j1 => by omega) FR.rf (fun I1 a1 f1 => ?_)
  refine S_X11_stands_32 (st_names (I0 := I1) hs _ 0 _ (Nat.lt_succ_self _) (Int.le_refl _) (by decide) (fun j j0 j1 => by omega) FR.rf (fun I2 a2 f2 => ?_))
  refine S_X11_stands_61 (st_side (I0 := I2) hs _ 0 _ (Nat.lt_succ_self _) (Int.le_refl _) (by decide) (fun j j0 j1 => by omega) FR.rf (fun I3 a3 f3 => ?_))
  refine S_X11_stands_88 (st_people (I0 := I3) hs _ 0 _ (Nat.lt_succ_self _) (Int.le_refl _) (by decide) (fun j j0 j1 => by omega) FR.rf (fun I4 a4 f4 => ?_))
  refine S_X11_stands_117 (st_walls (I0 := I4) hs _ 0 _ (Nat.lt_succ_self _) (Int.le_refl _) (by decide) (fun j j0 j1 => by omega) FR.rf (fun I5 a5 f5 => ?_))
  -- what changed so far
  have g5 : FR (fun x y => (x = 306 ∧ y = 55) ∨ (x = 339 ∧ 3 ≤ y) ∨ (x = 340 ∧ 12 ≤ y) ∨ (x = 341 ∧ 5 ≤ y) ∨ (x = 342 ∧ 24 ≤ y) ∨ (x = 344 ∧ 20 ≤ y)) I I5 := by
    refine FR.tr (FR.tr (FR.tr (FR.tr (FR.tr (FR_u2 (Or.inl ⟨rfl, rfl⟩)) (f1.mono (fun x y c => by omega))) (f2.mono (fun x y c => by omega))) (f3.mono (fun x y c => by omega))) (f4.mono (fun x y c => by omega))) (f5.mono (fun x y c => by omega))
  have e48 : I5 306 48 = D 306 48 := (g5 306 48 (fun c => by omega)).trans (td (by unfold tD; omega))
  refine S_X11_stands_146 ?_
  refine st_froms (I0 := u2 I5 306 49 (I5 306 48)) hs _ 0 _ (Nat.lt_succ_self _) (Int.le_refl _) (by decide) (fun j j0 j1 => by omega) FR.rf (fun I6 a6 f6 => ?_)
  have g6 : FR (fun x y => (x = 306 ∧ (y = 55 ∨ y = 49)) ∨ (x = 339 ∧ 3 ≤ y) ∨ (x = 340 ∧ 12 ≤ y) ∨ (x = 341 ∧ 5 ≤ y) ∨ (x = 342 ∧ 24 ≤ y) ∨ (x = 344 ∧ 20 ≤ y) ∨ ((x = 345 ∨ x = 346) ∧ 2 ≤ y)) I I6 :=
    FR.tr (FR.tr (g5.mono (fun x y c => by omega)) (FR_u2 (Or.inl ⟨rfl, Or.inr rfl⟩))) (f6.mono (fun x y c => by omega))
  have e53 : I6 306 53 = D 306 53 := (g6 306 53 (fun c => by omega)).trans (td (by unfold tD; omega))
  refine S_X11_stands_195 (st_codes (I0 := I6) hs e53 ⟨r3, r4⟩ _ 0 _ (Nat.lt_succ_self _) (Int.le_refl _) (by omega) (fun j j0 j1 => by omega) FR.rf (fun I7 a7 f7 => ?_))
  refine S_X11_stands_227 (st_zero (I0 := I7) hs _ 0 _ (Nat.lt_succ_self _) (Int.le_refl _) (by decide) (fun j j0 j1 => by omega) FR.rf (fun I8 a8 f8 => ?_))
  refine S_X11_stands_249 hs ?_
  have g8 : FR (fun x y => (x = 306 ∧ (y = 55 ∨ y = 49)) ∨ (x = 339 ∧ 3 ≤ y) ∨ (x = 340 ∧ 12 ≤ y) ∨ (x = 341 ∧ 5 ≤ y) ∨ (x = 342 ∧ 24 ≤ y) ∨ (x = 344 ∧ 20 ≤ y) ∨ ((x = 345 ∨ x = 346) ∧ 2 ≤ y) ∨ (x = 347 ∧ 1600 ≤ y) ∨ x = 348) I (u2 I8 348 1 (-1)) :=
    FR.tr (FR.tr (FR.tr (g6.mono (fun x y c => by omega)) (f7.mono (fun x y c => by omega))) (f8.mono (fun x y c => by omega))) (FR_u2 (by omega))
  have e1 : (u2 I8 348 1 (-1)) 339 1 = D 339 1 := (g8 339 1 (fun c => by omega)).trans (td (by unfold tD; omega))
  refine st_rows (I0 := u2 I8 348 1 (-1)) hs e1 ⟨r1, r2⟩ _ 0 _ (Nat.lt_succ_self _) (Int.le_refl _) (by omega) (fun p j p0 p1 => by omega) FR.rf (fun I9 a9 f9 => ?_)
  have gE : FR (fun x y => (x = 306 ∧ (y = 76 ∨ y = 73)) ∨ x = 348) I7 (u2 (u2 I9 306 76 0) 306 73 0) :=
    FR.tr (FR.tr (FR.tr (f8.mono (fun x y c => Or.inr c)) (FR_u2 (Or.inr rfl))) (f9.mono (fun x y c => Or.inr c.1))) (FR.tr (FR_u2 (Or.inl ⟨rfl, Or.inl rfl⟩)) (FR_u2 (Or.inl ⟨rfl, Or.inr rfl⟩)))
  have gF : FR mSt I (u2 (u2 I9 306 76 0) 306 73 0) :=
    FR.tr (FR.tr (g8.mono (fun x y c => by unfold mSt; omega)) (f9.mono (fun x y c => by unfold mSt; omega))) (FR.tr (FR_u2 (by unfold mSt; omega)) (FR_u2 (by unfold mSt; omega)))
  have hE : ∀ x y, x ≠ 348 → x ≠ 306 → (u2 (u2 I9 306 76 0) 306 73 0) x y = I7 x y := fun x y h1 h2 => gE x y (fun c => by omega)
  have h9 : ∀ y, (u2 (u2 I9 306 76 0) 306 73 0) 348 y = I9 348 y := fun y => by rw [u2_o (by decide), u2_o (by decide)]
  refine S_X11_stands_309 ⟨⟨?_, fun j j0 j1 => ?_, fun j j0 j1 => ?_, fun j j0 j1 => ?_, fun j j0 j1 => ?_, fun j j0 j1 => ?_, ?_, fun j j0 j1 => ?_, fun j j0 j1 => ?_⟩, ⟨?_, ?_, ?_, ?_, fun p j p0 p1 j0 j1 => ?_, fun p p0 p1 => ?_, ?_, ?_⟩, gF, rfl⟩
  · rw [gE 306 55 (fun c => by omega), f7 306 55 (fun c => by omega), f6 306 55 (fun c => by omega), u2_j (by decide), f5 306 55 (fun c => by omega), f4 306 55 (fun c => by omega), f3 306 55 (fun c => by omega), f2 306 55 (fun c => by omega), f1 306 55 (fun c => by omega), u2_at]
  · rw [hE _ _ (by decide) (by decide), f7 339 _ (fun c => by omega), f6 339 _ (fun c => by omega), u2_o (by decide), f5 339 _ (fun c => by omega), f4 339 _ (fun c => by omega), f3 339 _ (fun c => by omega), f2 339 _ (fun c => by omega), a1 j j0 j1, u2_o (by decide)]
    exact td (by unfold tD; omega)
  · rw [hE _ _ (by decide) (by decide), f7 340 _ (fun c => by omega), f6 340 _ (fun c => by omega), u2_o (by decide), f5 340 _ (fun c => by omega), f4 340 _ (fun c => by omega), f3 340 _ (fun c => by omega), a2 j j0 j1, f1 340 _ (fun c => by omega), u2_o (by decide)]
    exact td (by unfold tD; omega)
  · rw [hE _ _ (by decide) (by decide), f7 341 _ (fun c => by omega), f6 341 _ (fun c => by omega), u2_o (by decide), f5 341 _ (fun c => by omega), f4 341 _ (fun c => by omega), a3 j j0 j1, f2 341 _ (fun c => by omega), f1 341 _ (fun c => by omega), u2_o (by decide)]
    exact td (by unfold tD; omega)
  · rw [hE _ _ (by decide) (by decide), f7 342 _ (fun c => by omega), f6 342 _ (fun c => by omega), u2_o (by decide), f5 342 _ (fun c => by omega), a4 j j0 j1, f3 342 _ (fun c => by omega), f2 342 _ (fun c => by omega), f1 342 _ (fun c => by omega), u2_o (by decide)]
    exact td (by unfold tD; omega)
  · rw [hE _ _ (by decide) (by decide), f7 344 _ (fun c => by omega), f6 344 _ (fun c => by omega), u2_o (by decide), a5 j j0 j1, f4 344 _ (fun c => by omega), f3 344 _ (fun c => by omega), f2 344 _ (fun c => by omega), f1 344 _ (fun c => by omega), u2_o (by decide)]
    exact td (by unfold tD; omega)
  · rw [gE 306 49 (fun c => by omega), f7 306 49 (fun c => by omega), f6 306 49 (fun c => by omega), u2_at, e48]
  · rw [hE _ _ (by decide) (by decide), hE _ _ (by decide) (by decide), f7 345 _ (fun c => by omega), f7 346 _ (fun c => by omega), (a6 j j0 j1).1, (a6 j j0 j1).2, u2_o (by decide), u2_o (by decide), g5 345 _ (fun c => by omega), g5 346 _ (fun c => by omega)]
    exact ⟨td (by unfold tD; omega), td (by unfold tD; omega)⟩
  · rw [hE _ _ (by decide) (by decide), a7 j j0 j1, g6 347 _ (fun c => by omega)]
    exact td (by unfold tD; omega)
  · rw [h9, f9 348 0 (fun ⟨_, p, j, c⟩ => by omega), u2_j (by decide)]; exact a8 0 (by decide) (by decide)
  · rw [h9, f9 348 1 (fun ⟨_, p, j, c⟩ => by omega), u2_at]
  · rw [h9, f9 348 2 (fun ⟨_, p, j, c⟩ => by omega), u2_j (by decide)]; exact a8 2 (by decide) (by decide)
  · rw [h9, f9 348 33 (fun ⟨_, p, j, c⟩ => by omega), u2_j (by decide)]; exact a8 33 (by decide) (by decide)
  · rw [h9, a9 p j p0 p1 j0 j1, g8 343 _ (fun c => by omega)]
    exact td (by unfold tD; omega)
  · rw [h9, f9 348 _ (fun ⟨_, p', j, c⟩ => by omega), u2_j (by omega)]; exact a8 _ (by omega) (by omega)
  · rw [u2_j (by decide), u2_at]
  · rw [u2_at]
/-! ===== the model's square ===== -/
theorem stmL_unf {t : Int → Int} {n : Int} (k : Nat) (s : SA) (D : PF) (c : Int) : stmL t n (k + 1) s D c = if nxt t n s = -1 then (s, D, c) else stmL t n k (stmS t n D c s) (stmD t n D s) (c + 1) := rfl
theorem stm_le {t : Int → Int} {n : Int} {D : PF} {c : Int} {q q' : Int × Bool} (h : stmS t n D c (.inl q) = .inl q') (h0 : D 306 53 ≤ q.1) : c ≠ 60 ∧ stmD t n D (.inl q) 306 53 ≤ q'.1 := by
  by_cases c6 : c = 60
  · unfold stmS at h; rw [if_pos c6] at h; exact (fltA_in h).elim
  · refine ⟨c6, ?_⟩
    rw [stmS_B c6] at h
    obtain ⟨q1, e1, -, e3⟩ := askS_in (by decide) h
    have := stm_53 e1 (fun q0 e0 => by cases e0; exact h0)
    have s1 := skp_ge t n q1.1
    rw [e3]; simp only; omega
/-- where a square's text leaves the model -/
def SqR (t : Int → Int) (n : Int) (r : SA × PF × Int) (I : PF) : Prop := MO t n r.1 r.2.1 I ∧ (∀ q, r.1 = .inl q → I 306 54 = r.2.2)
theorem sqr_loop {X : CX} {d : Nat} {R : PF} {Q : PV → PF → PF → Prop} {t : Int → Int} {n : Int} {I0 : PF} (hs : Shp R) (hd : 12 ≤ d) : ∀ (k : Nat) (s : SA) (D : PF) (c : Int) (I : PF), (61 - c).toNat < k → 1 ≤ c → (∀ q, s = .inl q → c ≤ 60 ∧ I 306 54 = c ∧ D 306 53 ≤ q.1) → MO t n s D I → FR mS I0 I →
    (∀ I', SqR t n (stmL t n k s D c) I' → FR mS I0 I' → PN X d mX11_square 108 [(2, 306)] [] I' R Q) → PN X d mX11_square 86 [(2, 306)] [] I R Q := by
  intro k
  induction k with
  | zero => intro s D c I h; exact absurd h (Nat.not_lt_zero _)
  | succ k ih =>
    intro s D c I h hc hq hM hf hk
    rw [stmL_unf] at hk
    cases s with
    | inr f =>
      rw [if_pos (show nxt t n (.inr f) = -1 from rfl)] at hk
      refine S_X11_square_86 hM.st.1.r5 (fun _ => ?_) (fun g => absurd g hM.st.1.bad)
      exact hk I ⟨hM, fun q e => by cases e⟩ hf
    | inl q =>
      obtain ⟨c6, h54, h53⟩ := hq q rfl
      have hM : MG t n (.inl q) D I := hM
      refine S_X11_square_86 hM.1.r5 (fun g => absurd hM.1.ok g) (fun _ => ?_)
      refine S_X11_square_93 (d1 := 1) (by omega) (c_look2 hs hM.1) (fun z I1 R1 p => ?_)
      obtain ⟨(p1 : z = _), p2, p3, f1, rfl⟩ := p
      have zr : -1 ≤ nxt t n (.inl q) ∧ nxt t n (.inl q) ≤ 255 := lkv_r p2.1 (by have := hM.1.le; have := skp_ge t n q.1; omega)
      have hM1 := hM.rd p2 f1
      have f1' : FR mS I I1 := (rdT f1).mono (fun x y c => Or.inl c)
      have z1 : z = nxt t n (.inl q) := p1
      refine S_X11_square_97 (by omega) (fun g => ?_) (fun g => ?_)
      · rw [if_pos (by omega)] at hk
        exact hk I1 ⟨hM1, fun q e => by rw [mT_54 (rdT f1)]; exact h54⟩ (hf.tr f1')
      · rw [if_neg (by omega)] at hk
        refine S_X11_square_101 (d1 := 11) (by omega) (c_statementTold hs hM1 p3 (by rw [mT_54 (rdT f1)]; exact h54) ⟨by omega, c6⟩ h53) (fun z I2 R2 p => ?_)
        obtain ⟨k1, k2, rfl, k4⟩ := p
        refine S_X11_square_105 (ih _ _ (c + 1) I2 (by omega) (by omega) (fun q' e => ?_) k1 (hf.tr (f1'.tr k2)) hk)
        obtain ⟨b1, b2⟩ := stm_le e h53
        exact ⟨by omega, k4 q' e, b2⟩
def mSq (x y : Int) : Prop := mS x y ∨ mSt x y ∨ (x = 306 ∧ (y = 1 ∨ y = 3 ∨ y = 7 ∨ y = 8)) ∨ (x = 308 ∧ y = 1)
/-- what the model's square leaves behind -/
def MSq (r : SA × PF × Int) (v : Int) (I I' : PF) : Prop := match r.1 with
  | .inl _ => v = r.2.2 ∧ GD r.2.1 ∧ ST r.2.1 I' ∧ ST0 r.2.1 I' ∧ I' 306 7 = 0 ∧ I' 306 8 = -1 ∧ I' 306 1 = 0 ∧ (∀ j, I' 308 j = I 308 j)
  | .inr f => v = -1 ∧ I' 306 7 = f.1 ∧ f.1 ≠ 0 ∧ I' 306 8 = f.2 ∧ I' 306 1 = 0 ∧ (∀ j, I' 308 j = (u2 I 308 1 (I 308 1 + 1)) 308 j) ∧ (∀ x y, mSt x y → I' x y = I x y)
theorem st_z3 {X : CX} {d : Nat} {R : PF} {Q : PV → PF → PF → Prop} {I : PF} (hs : Shp R) (h : PN X d mX11_square 58 [(2, 306)] [] (u2 (u2 (u2 I 339 0 0) 339 1 0) 339 2 0) R Q) : PN X d mX11_square 40 [(2, 306), (0, 0)] [] I R Q := by
  refine S_X11_square_40 (by decide) (fun g => by omega) (fun _ => S_X11_square_45 hs (by decide) ?_)
  refine S_X11_square_40 (by decide) (fun g => by omega) (fun _ => S_X11_square_45 hs (by decide) ?_)
  refine S_X11_square_40 (by decide) (fun g => by omega) (fun _ => S_X11_square_45 hs (by decide) ?_)
  exact S_X11_square_40 (by decide) (fun _ => h) (fun g => by omega)
/-- the cells as the model begins to read -/
def sqI (I : PF) : PF := u2 (u2 (u2 (u2 (u2 (u2 (u2 (u2 (u2 (u2 (u2 (u2 (u2 I 306 3 (I 306 1)) 306 1 0) 306 2 0) 306 4 (-1)) 306 5 0) 306 6 (-1)) 306 53 0) 339 0 0) 339 1 0) 339 2 0) 345 0 (-1)) 345 1 (-1)) 306 48 0
theorem sqI_fr (I : PF) : FR (fun x y => (x = 306 ∧ (y = 1 ∨ y = 2 ∨ y = 3 ∨ y = 4 ∨ y = 5 ∨ y = 6 ∨ y = 48 ∨ y = 53)) ∨ (x = 339 ∧ 0 ≤ y ∧ y < 3) ∨ (x = 345 ∧ 0 ≤ y ∧ y < 2)) I (sqI I) := by
  unfold sqI
  refine FR.tr (FR.tr (FR.tr (FR.tr (FR.tr (FR.tr (FR.tr (FR.tr (FR.tr (FR.tr (FR.tr (FR.tr (FR_u2 ?_) (FR_u2 ?_)) (FR_u2 ?_)) (FR_u2 ?_)) (FR_u2 ?_)) (FR_u2 ?_)) (FR_u2 ?_)) (FR_u2 ?_)) (FR_u2 ?_)) (FR_u2 ?_)) (FR_u2 ?_)) (FR_u2 ?_)) (FR_u2 ?_) <;> decide
theorem sqI_ag {D I : PF} (hD : AgD D I) : AgD (D0 D) (sqI I) := by
  have h6 : AgD D (u2 (u2 (u2 (u2 (u2 (u2 I 306 3 (I 306 1)) 306 1 0) 306 2 0) 306 4 (-1)) 306 5 0) 306 6 (-1)) := by
    refine hD.fr (P := fun x y => x = 306 ∧ 1 ≤ y ∧ y ≤ 6) (FR.tr (FR.tr (FR.tr (FR.tr (FR.tr (FR_u2 (by decide)) (FR_u2 (by decide))) (FR_u2 (by decide))) (FR_u2 (by decide))) (FR_u2 (by decide))) (FR_u2 (by decide))) (fun x y c d => by unfold tD at c; omega)
  unfold sqI D0
  exact h6.u.u.u.u.u.u.u
theorem sqI_v (I : PF) : sqI I 306 1 = 0 ∧ sqI I 306 2 = 0 ∧ sqI I 306 3 = I 306 1 ∧ sqI I 306 4 = -1 ∧ sqI I 306 5 = 0 ∧ sqI I 306 6 = -1 := by
  unfold sqI
  refine ⟨?_, ?_, ?_, ?_, ?_, ?_⟩ <;> simp [u2]
theorem sqI_st {I : PF} {t : Int → Int} {n : Int} (ht : I 307 = t) (hn : I 306 1 = n) (hn0 : 0 ≤ n ∧ n ≤ 1600) (hb : ∀ j, 0 ≤ j → j < 1600 → 0 ≤ t j ∧ t j ≤ 255) : MSt t n (.inl (0, false)) (sqI I) := by
  have e7 : sqI I 307 = t := by rw [← ht]; funext j; exact sqI_fr I 307 j (fun c => by omega)
  obtain ⟨b1, b2, b3, b4, b5, b6⟩ := sqI_v I
  generalize sqI I = J at *
  refine ⟨⟨e7, b3.trans hn, hn0.1, hn0.2, hb, by omega, by omega, by rw [b4]; decide, by rw [b5]; decide, fun _ => b6⟩, b5, Int.le_refl _, by simp only; omega, by rw [b2], (fun c => by cases c), (fun _ => by rw [b4]; exact (by decide : (-1 : Int) < 0))⟩
theorem nSt {x y : Int} (c : mSt x y) : ¬ mS x y := fun d => by unfold mSt at c; unfold mS mT mPl tD mQ at d; omega
theorem n308 (y : Int) : ¬ mS 308 y := fun d => by unfold mS mT mPl tD mQ at d; omega
theorem n306 (y : Int) (h : y = 1 ∨ y = 3 ∨ y = 7 ∨ y = 8) : ¬ mS 306 y := fun d => by unfold mS mT mPl tD mQ at d; omega
theorem mSq_S {I J : PF} (h : FR mS I J) : FR mSq I J := h.mono (fun x y c => Or.inl c)
/-- behind the text -/
theorem sqr_end {X : CX} {d : Nat} {I0 I R : PF} {Q : PV → PF → PF → Prop} {t : Int → Int} {n : Int} {r : SA × PF × Int} (hs : Shp R) (hd : 1 ≤ d) (h : SqR t n r I) (g : FR mSq I0 I) (g8 : ∀ j, I 308 j = I0 308 j) (gs : ∀ x y, mSt x y → I x y = I0 x y) (h1 : I 306 1 = 0)
    (hQ : ∀ v I', MSq r v I0 I' → FR mSq I0 I' → CW I' → Q (0, v) I' R) : PN X d mX11_square 108 [(2, 306)] [] I R Q := by
  obtain ⟨s, D, c⟩ := r
  have hr5 := h.1.st.1.r5
  have fT : FR (fun x y => x = 306 ∧ (y = 7 ∨ y = 8)) I (u2 (u2 I 306 7 (I 306 5)) 306 8 ((u2 I 306 7 (I 306 5)) 306 6)) := FR.tr (FR_u2 ⟨rfl, by decide⟩) (FR_u2 ⟨rfl, by decide⟩)
  have t7 : (u2 (u2 I 306 7 (I 306 5)) 306 8 ((u2 I 306 7 (I 306 5)) 306 6)) 306 7 = I 306 5 := by rw [u2_j (by decide), u2_at]
  have t8 : (u2 (u2 I 306 7 (I 306 5)) 306 8 ((u2 I 306 7 (I 306 5)) 306 6)) 306 8 = I 306 6 := by rw [u2_at, u2_j (by decide)]
  have t5 : (u2 (u2 I 306 7 (I 306 5)) 306 8 ((u2 I 306 7 (I 306 5)) 306 6)) 306 5 = I 306 5 := fT 306 5 (fun c => by omega)
  have fTq : FR mSq I (u2 (u2 I 306 7 (I 306 5)) 306 8 ((u2 I 306 7 (I 306 5)) 306 6)) := fT.mono (fun x y c => Or.inr (Or.inr (Or.inl ⟨c.1, by omega⟩)))
  cases s with
  | inr f =>
    have m2 : MSt t n (.inr f) I := h.1.1
    have c2 : CW I := h.1.2
    refine S_X11_square_108 (by rw [t5]; exact hr5) (fun g => absurd (t5.symm.trans g) m2.bad) (fun _ => ?_)
    generalize u2 (u2 I 306 7 (I 306 5)) 306 8 ((u2 I 306 7 (I 306 5)) 306 6) = T at fT t7 t8 t5 fTq
    have e8 : ∀ j, T 308 j = I0 308 j := fun j => (fT 308 j (fun c => by omega)).trans (g8 j)
    have fE : FR (fun x y => x = 308 ∧ y = 1) T (u2 T 308 1 (T 308 1 + 1)) := FR_u2 ⟨rfl, rfl⟩
    refine S_X11_square_131 hs (hQ _ _ ⟨rfl, ?_, m2.2.2.1, ?_, ?_, fun j => ?_, fun x y c => ?_⟩ ?_ ?_)
    · rw [fE 306 7 (fun c => by omega), t7]; exact m2.2.1
    · rw [fE 306 8 (fun c => by omega), t8]; exact m2.2.2.2
    · rw [fE 306 1 (fun c => by omega), fT 306 1 (fun c => by omega)]; exact h1
    · by_cases c : j = 1
      · rw [c, u2_at, u2_at, e8]
      · rw [u2_j c, u2_j c, e8]
    · rw [fE x y (fun d => by unfold mSt at c; omega), fT x y (fun d => by unfold mSt at c; omega)]
      exact gs x y c
    · exact (g.tr fTq).tr (fE.mono (fun x y c => Or.inr (Or.inr (Or.inr c))))
    · exact c2.rows (fun a ha => funext fun i => (fE a i (fun c => by omega)).trans (fT a i (fun c => by omega)))
  | inl q =>
    have hM : MG t n (.inl q) D I := h.1
    have h54 : I 306 54 = c := h.2 q rfl
    refine S_X11_square_108 (by rw [t5]; exact hr5) (fun _ => ?_) (fun g => absurd hM.1.ok (fun e => g (t5.trans e)))
    generalize u2 (u2 I 306 7 (I 306 5)) 306 8 ((u2 I 306 7 (I 306 5)) 306 6) = T at fT t7 t8 t5 fTq
    have aT : AgD D T := hM.2.1.fr fT (fun x y c d => by unfold tD at c; omega)
    refine S_X11_square_143 (d1 := 0) (by omega) (c_stands hs aT hM.2.2.2) (fun z I3 R3 p => ?_)
    obtain ⟨s1, s2, s3, rfl⟩ := p
    have v54 : I3 306 54 = c := (s3 306 54 (fun c => by unfold mSt at c; omega)).trans ((fT 306 54 (fun c => by omega)).trans h54)
    refine S_X11_square_147 (hQ _ _ ⟨v54, hM.2.2.2, s1, s2, ?_, ?_, ?_, fun j => ?_⟩ ?_ ?_)
    · rw [s3 306 7 (fun c => by unfold mSt at c; omega), t7]; exact hM.1.ok
    · rw [s3 306 8 (fun c => by unfold mSt at c; omega), t8]; exact hM.1.b6
    · rw [s3 306 1 (fun c => by unfold mSt at c; omega), fT 306 1 (fun c => by omega)]; exact h1
    · rw [s3 308 j (fun c => by unfold mSt at c; omega), fT 308 j (fun c => by omega)]; exact g8 j
    · exact (g.tr fTq).tr (s3.mono (fun x y c => Or.inr (Or.inl c)))
    · exact hM.2.2.1.rows (fun a ha => funext fun i => (s3 a i (fun c => by unfold mSt at c; omega)).trans (fT a i (fun c => by omega)))
theorem c_square {X : CX} {I R : PF} {t : Int → Int} {n : Int} {D : PF} (hs : Shp R) (ht : I 307 = t) (hn : I 306 1 = n) (hn0 : 0 ≤ n ∧ n ≤ 1600) (hb : ∀ j, 0 ≤ j → j < 1600 → 0 ≤ t j ∧ t j ≤ 255) (hD : AgD D I) (hC : CW I) :
    CN X 12 mX11_square [(2, 306)] I R (fun v I' R' => MSq (sgR t n D) v.2 I I' ∧ FR mSq I I' ∧ CW I' ∧ R' = R) := by
  have e : sgR t n D = stmL t n 61 (sgZ t n) (sgD t n (D0 D)) 1 := rfl
  rw [e]
  refine callee_b (by decide +kernel) (Nat.le_of_ble_eq_true rfl) rfl ?_
  have fI := sqI_fr I
  have aD := sqI_ag hD
  have mJ := sqI_st ht hn hn0 hb
  have b1 := (sqI_v I).1
  have go : PN X 12 mX11_square 58 [(2, 306)] [] (u2 (u2 (u2 (u2 (u2 (u2 (u2 (u2 (u2 (u2 I 306 3 (I 306 1)) 306 1 0) 306 2 0) 306 4 (-1)) 306 5 0) 306 6 (-1)) 306 53 0) 339 0 0) 339 1 0) 339 2 0) R (fun v I' R' => MSq (stmL t n 61 (sgZ t n) (sgD t n (D0 D)) 1) v.2 I I' ∧ FR mSq I I' ∧ CW I' ∧ R' = R) := by
    refine S_X11_square_58 (d1 := 5) hs (by omega) (Q1 := fun _ I' R' => MO t n (sgZ t n) (sgD t n (D0 D)) I' ∧ FR mT (sqI I) I' ∧ R' = R) ?_ (fun z I1 R1 p => ?_)
    · show CN X 5 mX11_squareTold [(2, 306)] (sqI I) R _
      exact c_squareTold hs mJ aD (hC.rows (fun a ha => funext fun i => fI a i (fun c => by omega)))
    obtain ⟨k1, k2, rfl⟩ := p
    generalize hJ : sqI I = J at *
    have w54 : FR mS J (u2 I1 306 54 1) := (k2.mono (fun x y c => Or.inl c)).tr (FR_u2 (Or.inr ⟨rfl, rfl⟩))
    refine S_X11_square_81 (sqr_loop (I0 := J) hs (by decide) 61 (sgZ t n) (sgD t n (D0 D)) 1 _ (by decide) (by decide) (fun q e => ⟨by decide, u2_at, ?_⟩) k1.w54 w54 (fun I2 k3 k4 => ?_))
    · rw [e] at k1
      have := k1.1.le
      have e0 : sgD t n (D0 D) 306 53 = 0 := by simp [sgD, D0, u2]
      omega
    generalize stmL t n 61 (sgZ t n) (sgD t n (D0 D)) 1 = r at k3
    have g2 : FR mSq I I2 := (fI.mono (fun x y c => by
      rcases c with c | c | c
      · by_cases d : y = 1 ∨ y = 3
        · exact Or.inr (Or.inr (Or.inl ⟨c.1, by omega⟩))
        · exact Or.inl (Or.inl (by unfold mT mPl tD; omega))
      · exact Or.inl (Or.inl (by unfold mT mPl tD; omega))
      · exact Or.inl (Or.inl (by unfold mT mPl tD; omega)))).tr (mSq_S k4)
    refine sqr_end hs (by decide) k3 g2 (fun j => ?_) (fun x y c => ?_) ?_ (fun v I' a b c => ⟨a, b, c, rfl⟩)
    · rw [k4 308 j (n308 j)]; exact fI 308 j (fun c => by omega)
    · rw [k4 x y (nSt c)]; exact fI x y (fun d => by unfold mSt at c; omega)
    · rw [k4 306 1 (n306 1 (Or.inl rfl))]; exact b1
  exact S_X11_square_0 (st_z3 hs go)
