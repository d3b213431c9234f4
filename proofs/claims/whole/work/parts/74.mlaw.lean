/-! ===== what is told stays in range ===== -/
theorem wlT_c {D D' : PF} (h2 : D' 339 2 = D 339 2) (h : ∀ j, D' 344 j = D 344 j) (x y : Int) : wlT D' x y ↔ wlT D x y := by
  unfold wlT; simp only [h2, h]
theorem GD_law {D : PF} {v : Int} (h : GD D) (h6 : D 339 0 ≠ 6) (hv : okW v) : GD (u2 (u2 D 340 (D 339 0) v) 339 0 (D 339 0 + 1)) := by
  obtain ⟨a1, a2, a3, a4, a5, a6, a7, a8, a9, a10, a11, a12⟩ := h
  generalize hD : u2 (u2 D 340 (D 339 0) v) 339 0 (D 339 0 + 1) = D'
  have e : ∀ x j, x ≠ 339 → x ≠ 340 → D' x j = D x j := fun x j h1 h2 => by rw [← hD, u2_o h1, u2_o h2]
  have e0 : D' 339 0 = D 339 0 + 1 := by rw [← hD, u2_at]
  have e3 : ∀ j, j ≠ 0 → D' 339 j = D 339 j := fun j h1 => by rw [← hD, u2_j h1, u2_o (by decide)]
  have e4 : ∀ j, j ≠ D 339 0 → D' 340 j = D 340 j := fun j h1 => by rw [← hD, u2_o (by decide), u2_j h1]
  have e5 : D' 340 (D 339 0) = v := by rw [← hD, u2_o (by decide), u2_at]
  have e31 := e3 1 (by decide)
  have e32 := e3 2 (by decide)
  have ew : ∀ x y, wlT D' x y ↔ wlT D x y := wlT_c e32 (fun j => e 344 j (by decide) (by decide))
  refine ⟨?_, ?_, fun k k0 k1 => ?_, fun k k0 k1 => ?_, fun k k0 k1 => ?_, fun k k0 k1 => ?_, fun k j k0 k1 k2 => ?_, fun k k0 k1 => ?_, ?_, ?_, ?_, ?_⟩
  · simp only [e 341 _ (by decide) (by decide)]; exact a1
  · rw [e0, e31, e32]; omega
  · by_cases c : k = D 339 0
    · rw [c, e5]; exact hv
    · rw [e4 k c]; exact a3 k k0 (by omega)
  · rw [e4 (6 + k) (by omega)]; exact a4 k k0 (by omega)
  · simp only [e 342 _ (by decide) (by decide), e0]; have := a5 k k0 (by omega); omega
  · simp only [e 343 _ (by decide) (by decide), e 341 _ (by decide) (by decide), ew]; exact a6 k k0 (by omega)
  · simp only [e 343 _ (by decide) (by decide)]; exact a7 k j k0 k1 (by omega)
  · simp only [e 344 _ (by decide) (by decide), e 341 _ (by decide) (by decide)]; exact a8 k k0 (by omega)
  · rw [e 306 _ (by decide) (by decide)]; exact a9
  · rw [e 306 _ (by decide) (by decide)]; exact a10
  · simp only [e 345 _ (by decide) (by decide), e 346 _ (by decide) (by decide), e 306 _ (by decide) (by decide)]; exact a11
  · simp only [e 345 _ (by decide) (by decide), e 346 _ (by decide) (by decide), e 306 _ (by decide) (by decide)]; exact a12
theorem GD_wal {D : PF} {x y : Int} (h : GD D) (h6 : D 339 2 ≠ 10) (hx : 0 ≤ x ∧ x < D 341 0) (hy : 0 ≤ y ∧ y < D 341 1) (hp : ¬ psT D x y) : GD (u2 (u2 (u2 D 344 (2 * D 339 2) x) 344 (2 * D 339 2 + 1) y) 339 2 (D 339 2 + 1)) := by
  obtain ⟨a1, a2, a3, a4, a5, a6, a7, a8, a9, a10, a11, a12⟩ := h
  generalize hD : u2 (u2 (u2 D 344 (2 * D 339 2) x) 344 (2 * D 339 2 + 1) y) 339 2 (D 339 2 + 1) = D'
  have e : ∀ x j, x ≠ 339 → x ≠ 344 → D' x j = D x j := fun x j h1 h2 => by rw [← hD, u2_o h1, u2_o h2, u2_o h2]
  have e0 : D' 339 2 = D 339 2 + 1 := by rw [← hD, u2_at]
  have e3 : ∀ j, j ≠ 2 → D' 339 j = D 339 j := fun j h1 => by rw [← hD, u2_j h1, u2_o (by decide), u2_o (by decide)]
  have e4 : ∀ j, j < 2 * D 339 2 → D' 344 j = D 344 j := fun j h1 => by rw [← hD, u2_o (by decide), u2_j (by omega), u2_j (by omega)]
  have e5 : D' 344 (2 * D 339 2) = x := by rw [← hD, u2_o (by decide), u2_j (by omega), u2_at]
  have e6 : D' 344 (2 * D 339 2 + 1) = y := by rw [← hD, u2_o (by decide), u2_at]
  have e31 := e3 1 (by decide)
  have e32 := e3 0 (by decide)
  have ew : ∀ x' y', wlT D' x' y' → wlT D x' y' ∨ (x' = x ∧ y' = y) := fun x' y' ⟨k, k0, k1, k2, k3⟩ => by
    by_cases c : k = D 339 2
    · rw [c, e5] at k2; rw [c, e6] at k3; exact Or.inr ⟨k2.symm, k3.symm⟩
    · rw [e4 _ (by omega)] at k2 k3; exact Or.inl ⟨k, k0, by omega, k2, k3⟩
  refine ⟨?_, ?_, fun k k0 k1 => ?_, fun k k0 k1 => ?_, fun k k0 k1 => ?_, fun k k0 k1 => ?_, fun k j k0 k1 k2 => ?_, fun k k0 k1 => ?_, ?_, ?_, ?_, ?_⟩
  · simp only [e 341 _ (by decide) (by decide)]; exact a1
  · rw [e0, e31, e32]; omega
  · rw [e 340 _ (by decide) (by decide)]; exact a3 k k0 (by omega)
  · rw [e 340 _ (by decide) (by decide)]; exact a4 k k0 (by omega)
  · simp only [e 342 _ (by decide) (by decide), e32]; have := a5 k k0 (by omega); omega
  · simp only [e 343 _ (by decide) (by decide), e 341 _ (by decide) (by decide)]
    obtain ⟨b1, b2, b3, b4, b5, b6, b7, b8, b9⟩ := a6 k k0 (by omega)
    refine ⟨b1, b2, b3, b4, b5, b6, b7, b8, fun c => ?_⟩
    rcases ew _ _ c with c | c
    · exact b9 c
    · exact hp ⟨k, k0, by omega, c.1, c.2⟩
  · simp only [e 343 _ (by decide) (by decide)]; exact a7 k j k0 k1 (by omega)
  · simp only [e 341 _ (by decide) (by decide)]
    by_cases c : k = D 339 2
    · rw [c, e5, e6]; omega
    · rw [e4 _ (by omega), e4 _ (by omega)]; exact a8 k k0 (by omega)
  · rw [e 306 _ (by decide) (by decide)]; exact a9
  · rw [e 306 _ (by decide) (by decide)]; exact a10
  · simp only [e 345 _ (by decide) (by decide), e 346 _ (by decide) (by decide), e 306 _ (by decide) (by decide)]; exact a11
  · simp only [e 345 _ (by decide) (by decide), e 346 _ (by decide) (by decide), e 306 _ (by decide) (by decide)]; exact a12
theorem GD_per {D : PF} {v x y tall pace law way force : Int} (h : GD D) (h6 : D 339 1 ≠ 6) (hv : okW v) (hx : 0 ≤ x ∧ x < D 341 0) (hy : 0 ≤ y ∧ y < D 341 1) (hp : ¬ psT D x y) (hw : ¬ wlT D x y) (ht : 0 ≤ tall ∧ tall ≤ 9) (hpa : 0 ≤ pace ∧ pace ≤ 2) (hl : 0 ≤ law ∧ law < D 339 0) (hwa : 0 ≤ way ∧ way ≤ 8) (hf : 0 ≤ force ∧ force ≤ 3) :
    GD (u2 (u2 (u2 (u2 (u2 (u2 (u2 (u2 (u2 D 340 (6 + D 339 1) v) 342 (4 * D 339 1) tall) 342 (4 * D 339 1 + 1) pace) 342 (4 * D 339 1 + 2) law) 343 (4 * D 339 1) x) 343 (4 * D 339 1 + 1) y) 343 (4 * D 339 1 + 2) way) 343 (4 * D 339 1 + 3) force) 339 1 (D 339 1 + 1)) := by
  obtain ⟨a1, a2, a3, a4, a5, a6, a7, a8, a9, a10, a11, a12⟩ := h
  generalize hD : u2 (u2 (u2 (u2 (u2 (u2 (u2 (u2 (u2 D 340 (6 + D 339 1) v) 342 (4 * D 339 1) tall) 342 (4 * D 339 1 + 1) pace) 342 (4 * D 339 1 + 2) law) 343 (4 * D 339 1) x) 343 (4 * D 339 1 + 1) y) 343 (4 * D 339 1 + 2) way) 343 (4 * D 339 1 + 3) force) 339 1 (D 339 1 + 1) = D'
  have e : ∀ x j, x ≠ 339 → x ≠ 340 → x ≠ 342 → x ≠ 343 → D' x j = D x j := fun x j h1 h2 h3 h4 => by rw [← hD, u2_o h1, u2_o h4, u2_o h4, u2_o h4, u2_o h4, u2_o h3, u2_o h3, u2_o h3, u2_o h2]
  have e0 : D' 339 1 = D 339 1 + 1 := by rw [← hD, u2_at]
  have e3 : ∀ j, j ≠ 1 → D' 339 j = D 339 j := fun j h1 => by rw [← hD, u2_j h1]; iterate 8 rw [u2_o (by decide)]
  have e4 : ∀ j, j ≠ 6 + D 339 1 → D' 340 j = D 340 j := fun j h1 => by
    rw [← hD]
    iterate 8 rw [u2_o (by decide)]
    rw [u2_j h1]
  have e5 : D' 340 (6 + D 339 1) = v := by
    rw [← hD]
    iterate 8 rw [u2_o (by decide)]
    rw [u2_at]
  have f4 : ∀ j, j < 4 * D 339 1 → D' 342 j = D 342 j := fun j h1 => by
    rw [← hD]
    iterate 5 rw [u2_o (by decide)]
    rw [u2_j (by omega), u2_j (by omega), u2_j (by omega), u2_o (by decide)]
  have f0 : D' 342 (4 * D 339 1) = tall := by
    rw [← hD]
    iterate 5 rw [u2_o (by decide)]
    rw [u2_j (by omega), u2_j (by omega), u2_at]
  have f1 : D' 342 (4 * D 339 1 + 1) = pace := by
    rw [← hD]
    iterate 5 rw [u2_o (by decide)]
    rw [u2_j (by omega), u2_at]
  have f2 : D' 342 (4 * D 339 1 + 2) = law := by
    rw [← hD]
    iterate 5 rw [u2_o (by decide)]
    rw [u2_at]
  have g4 : ∀ j, j < 4 * D 339 1 → D' 343 j = D 343 j := fun j h1 => by rw [← hD, u2_o (by decide), u2_j (by omega), u2_j (by omega), u2_j (by omega), u2_j (by omega), u2_o (by decide), u2_o (by decide), u2_o (by decide), u2_o (by decide)]
  have g0 : D' 343 (4 * D 339 1) = x := by rw [← hD, u2_o (by decide), u2_j (by omega), u2_j (by omega), u2_j (by omega), u2_at]
  have g1 : D' 343 (4 * D 339 1 + 1) = y := by rw [← hD, u2_o (by decide), u2_j (by omega), u2_j (by omega), u2_at]
  have g2 : D' 343 (4 * D 339 1 + 2) = way := by rw [← hD, u2_o (by decide), u2_j (by omega), u2_at]
  have g3 : D' 343 (4 * D 339 1 + 3) = force := by rw [← hD, u2_o (by decide), u2_at]
  have e30 := e3 0 (by decide)
  have e32 := e3 2 (by decide)
  have ew : ∀ x y, wlT D' x y ↔ wlT D x y := wlT_c e32 (fun j => e 344 j (by decide) (by decide) (by decide) (by decide))
  have e341 : ∀ j, D' 341 j = D 341 j := fun j => e 341 j (by decide) (by decide) (by decide) (by decide)
  have e306 : ∀ j, D' 306 j = D 306 j := fun j => e 306 j (by decide) (by decide) (by decide) (by decide)
  have e345 : ∀ j, D' 345 j = D 345 j := fun j => e 345 j (by decide) (by decide) (by decide) (by decide)
  have e346 : ∀ j, D' 346 j = D 346 j := fun j => e 346 j (by decide) (by decide) (by decide) (by decide)
  have e344 : ∀ j, D' 344 j = D 344 j := fun j => e 344 j (by decide) (by decide) (by decide) (by decide)
  refine ⟨?_, ?_, fun k k0 k1 => ?_, fun k k0 k1 => ?_, fun k k0 k1 => ?_, fun k k0 k1 => ?_, fun k j k0 k1 k2 => ?_, fun k k0 k1 => ?_, ?_, ?_, ?_, ?_⟩
  · simp only [e341]; exact a1
  · rw [e0, e30, e32]; omega
  · rw [e4 k (by omega)]; exact a3 k k0 (by omega)
  · by_cases c : k = D 339 1
    · rw [c, e5]; exact hv
    · rw [e4 _ (by omega)]; exact a4 k k0 (by omega)
  · rw [e30]
    by_cases c : k = D 339 1
    · rw [c, f0, f1, f2]; omega
    · rw [f4 _ (by omega), f4 _ (by omega), f4 _ (by omega)]; exact a5 k k0 (by omega)
  · simp only [e341, ew]
    by_cases c : k = D 339 1
    · rw [c, g0, g1, g2, g3]; exact ⟨hx.1, hx.2, hy.1, hy.2, hwa.1, hwa.2, hf.1, hf.2, hw⟩
    · rw [g4 _ (by omega), g4 _ (by omega), g4 _ (by omega), g4 _ (by omega)]; exact a6 k k0 (by omega)
  · rw [g4 (4 * k) (by omega), g4 (4 * k + 1) (by omega)]
    by_cases c : j = D 339 1
    · rw [c, g0, g1]; exact fun c2 => hp ⟨k, k0, by omega, c2.1, c2.2⟩
    · rw [g4 _ (by omega), g4 _ (by omega)]; exact a7 k j k0 k1 (by omega)
  · simp only [e344, e341]; exact a8 k k0 (by omega)
  · rw [e306]; exact a9
  · rw [e306]; exact a10
  · simp only [e345, e346, e306]; exact a11
  · simp only [e345, e346, e306]; exact a12
theorem GD_gus {D : PF} {v : Int} (h : GD D) (hv : 0 ≤ v ∧ v ≤ 100) : GD (u2 D 306 48 v) := by
  obtain ⟨a1, a2, a3, a4, a5, a6, a7, a8, a9, a10, a11, a12⟩ := h
  generalize hD : u2 D 306 48 v = D'
  have e : ∀ x j, x ≠ 306 → D' x j = D x j := fun x j h1 => by rw [← hD, u2_o h1]
  have e3 : D' 306 53 = D 306 53 := by rw [← hD, u2_j (by decide)]
  have e4 : D' 306 48 = v := by rw [← hD, u2_at]
  have ew : ∀ x y, wlT D' x y ↔ wlT D x y := wlT_c (e 339 2 (by decide)) (fun j => e 344 j (by decide))
  refine ⟨?_, ?_, ?_, ?_, ?_, ?_, ?_, ?_, ?_, ?_, ?_, ?_⟩
  · simp only [e 341 _ (by decide)]; exact a1
  · simp only [e 339 _ (by decide)]; exact a2
  · simp only [e 339 _ (by decide), e 340 _ (by decide)]; exact a3
  · simp only [e 339 _ (by decide), e 340 _ (by decide)]; exact a4
  · simp only [e 339 _ (by decide), e 342 _ (by decide)]; exact a5
  · simp only [e 339 _ (by decide), e 343 _ (by decide), e 341 _ (by decide), ew]; exact a6
  · simp only [e 339 _ (by decide), e 343 _ (by decide)]; exact a7
  · simp only [e 339 _ (by decide), e 344 _ (by decide), e 341 _ (by decide)]; exact a8
  · rw [e4]; exact hv
  · rw [e3]; exact a10
  · simp only [e 345 _ (by decide), e 346 _ (by decide), e3]; exact a11
  · simp only [e 345 _ (by decide), e 346 _ (by decide), e3]; exact a12
/-! ===== the model reads a law, a wall, a gust ===== -/
def mT (x y : Int) : Prop := mPl x y ∨ tD x y ∨ mQ x y ∨ (x = 306 ∧ y = 56)
def MO (t : Int → Int) (n : Int) (s : SA) (D I : PF) : Prop := match s with
  | .inl q => MG t n (.inl q) D I
  | .inr f => MSt t n (.inr f) I ∧ CW I
theorem MO.st {t : Int → Int} {n : Int} {s : SA} {D I : PF} (h : MO t n s D I) : MSt t n s I ∧ CW I := by
  cases s with
  | inl q => exact ⟨h.1, h.2.2.1⟩
  | inr f => exact h
theorem MG.mo {t : Int → Int} {n : Int} {s : SA} {D I : PF} (h : MG t n s D I) : MO t n s D I := by
  cases s with
  | inl q => exact h
  | inr f => exact ⟨h.1, h.2.2.1⟩
theorem rdT {I J : PF} (h : FR mRd I J) : FR mT I J := h.mono (fun x y c => Or.inl (by unfold mRd at c; unfold mPl; omega))
theorem plT {I J : PF} (h : FR mPl I J) : FR mT I J := h.mono (fun x y c => Or.inl c)
theorem tDT {I : PF} {x y v : Int} (h : tD x y) : FR mT I (u2 I x y v) := FR_u2 (Or.inr (Or.inl h))
theorem new_in {t : Int → Int} {n : Int} {D : PF} {s : SA} {q' : Int × Bool} (h : newS t n D s = .inl q') : ∃ q, s = .inl q ∧ namS t n (.inl q) = .inl q' ∧ ¬ knw D (valW t n q) ∧ okW (valW t n q) := by
  unfold newS at h
  by_cases c : knw D (vW t n s)
  · rw [cif_t c] at h
    cases hn : namS t n s with
    | inl q => rw [hn] at h; cases h
    | inr f => rw [hn] at h; cases h
  · rw [cif_f c] at h
    cases s with
    | inr f => cases h
    | inl q =>
      obtain ⟨w1, w2, -⟩ := nam_ok h
      exact ⟨q, rfl, h, c, (valW_l w2 w1).1⟩
theorem pla_in {t : Int → Int} {n : Int} {D : PF} {tw : Prop} {s : SA} {q' : Int × Bool} (h : plaS t n D tw s = .inl q') : ¬ plaB t n D tw s ∧ plaY t n D s = .inl q' ∧ (0 ≤ vN t n s ∧ vN t n s < D 341 0) ∧ (0 ≤ vN t n (plaX t n D s) ∧ vN t n (plaX t n D s) < D 341 1) := by
  unfold plaS at h
  by_cases c : plaB t n D tw s
  · rw [cif_t c] at h
    cases hn : plaY t n D s with
    | inl q => rw [hn] at h; cases h
    | inr f => rw [hn] at h; cases h
  · rw [cif_f c] at h
    obtain ⟨q, q1, rfl, hX, n1, n2⟩ := plaY_in h
    have l1 := num_lt n1
    have l2 := num_lt n2
    refine ⟨c, h, ?_, ?_⟩
    · show 0 ≤ valN t n q ∧ valN t n q < _; omega
    · rw [hX]; show 0 ≤ valN t n q1 ∧ valN t n q1 < _; omega
theorem AgD.u {D I : PF} {x y v : Int} (h : AgD D I) : AgD (u2 D x y v) (u2 I x y v) := fun a b c => by
  unfold u2
  by_cases e : a = x ∧ b = y
  · rw [if_pos e, if_pos e]
  · rw [if_neg e, if_neg e]; exact h a b c
theorem CW.u {I : PF} {x y v : Int} (h : CW I) (hx : tD x y) : CW (u2 I x y v) := h.rows (fun a ha => u2_row (by unfold tD at hx; omega))
theorem MSt.u {t : Int → Int} {n : Int} {s : SA} {I : PF} {x y v : Int} (h : MSt t n s I) (hx : tD x y) : MSt t n s (u2 I x y v) := h.fr (FR_u2 (P := tD) hx) (fun x y c => by unfold tD at c; omega)
theorem fltA_in {k p : Int} {s : SA} {q : Int × Bool} (h : fltA k p s = .inl q) : False := by cases s <;> cases h
theorem c_lawTold {X : CX} {I R : PF} {t : Int → Int} {n b : Int} {s : SA} {D : PF} (hs : Shp R) (h : MG t n s D I) :
    CN X 6 mX11_lawTold [(2, 306), (0, b)] I R (fun _ I' R' => MO t n (lawS t n D b s) (lawD t n D s) I' ∧ FR mT I I' ∧ R' = R) := by
  refine callee_b (by decide +kernel) (Nat.le_of_ble_eq_true rfl) rfl ?_
  have e0 : I 339 0 = D 339 0 := h.c0 (by decide)
  obtain ⟨-, ⟨r1, r2, -⟩, -⟩ := h.2.2.2
  refine S_X11_lawTold_0 (d1 := 2) (by omega) (c_isFull hs h.1 (by decide) (by omega) (by decide)) (fun z I1 R1 p => ?_)
  obtain ⟨k1, k2, k3, k4, rfl⟩ := p
  rw [e0] at k1 k2
  simp only at k2 k3
  unfold lawS
  by_cases c6 : D 339 0 = 6
  · rw [if_pos c6] at k1 k2
    rw [cif_t c6]
    have zn : z ≠ 0 := fun c => by obtain ⟨q, hq⟩ := k2.mp c; exact fltA_in hq
    refine S_X11_lawTold_8 (by omega) (fun g => absurd g zn) (fun _ => ?_)
    refine S_X11_lawTold_11 ⟨?_, rdT k4, rfl⟩
    cases s with
    | inl q => exact ⟨k1, h.2.2.1.rd k4⟩
    | inr f => exact ⟨k1, h.2.2.1.rd k4⟩
  rw [if_neg c6] at k1 k2
  rw [cif_f c6]
  have hG1 := h.rd k1 k4
  refine S_X11_lawTold_8 (by omega) (fun g => ?_) (fun g => ?_)
  rotate_left
  · cases s with
    | inl q => exact absurd (k2.mpr ⟨q, rfl⟩) g
    | inr f =>
      have en : newS t n D (.inr f) = .inr f := by
        unfold newS
        by_cases c : knw D (vW t n (.inr f))
        · exact cif_t c
        · exact cif_f c
      rw [en]
      exact S_X11_lawTold_11 ⟨⟨k1, hG1.2.2.1⟩, rdT k4, rfl⟩
  refine S_X11_lawTold_12 (d1 := 5) (by omega) (c_newName hs hG1) (fun v I2 R2 p => ?_)
  obtain ⟨j1, j2, rfl, j4⟩ := p
  simp only at j4
  cases hN : newS t n D s with
  | inr f =>
    rw [hN] at j1
    refine S_X11_lawTold_16 j1.1.r5 (fun g => absurd g j1.1.bad) (fun _ => ?_)
    exact S_X11_lawTold_24 ⟨⟨j1.1, j1.2.2.1⟩, rdT (k4.tr j2), rfl⟩
  | inl q' =>
    have hv := j4 q' hN
    obtain ⟨q, rfl, -, w1, w2⟩ := new_in hN
    rw [hN] at j1
    have e2 : I2 339 0 = D 339 0 := j1.c0 (by decide)
    refine S_X11_lawTold_16 j1.1.r5 (fun _ => ?_) (fun g => absurd j1.1.ok g)
    have t1 : tD 340 (D 339 0) := by unfold tD; omega
    have t2 : tD 339 0 := by unfold tD; omega
    have e3 : (u2 I2 340 (I2 339 0) v) 339 0 = D 339 0 := by rw [u2_o (by decide)]; exact e2
    refine S_X11_lawTold_25 hs (by omega) ⟨?_, ?_, rfl⟩
    · rw [e3, e2, hv]
      exact ⟨(j1.1.u t1).u t2, (j1.2.1.u).u, (j1.2.2.1.u t1).u t2, GD_law j1.2.2.2 c6 w2⟩
    · rw [e3, e2]
      exact (rdT (k4.tr j2)).tr ((tDT t1).tr (tDT t2))
theorem plaS_f {t : Int → Int} {n : Int} {D : PF} {tw : Prop} {f : Int × Int} : plaS t n D tw (.inr f) = .inr f := by
  unfold plaS
  by_cases c : plaB t n D tw (.inr f)
  · exact cif_t c
  · exact cif_f c
theorem newS_f {t : Int → Int} {n : Int} {D : PF} {f : Int × Int} : newS t n D (.inr f) = .inr f := by
  unfold newS
  by_cases c : knw D (vW t n (.inr f))
  · exact cif_t c
  · exact cif_f c
theorem c_wallTold {X : CX} {I R : PF} {t : Int → Int} {n b : Int} {s : SA} {D : PF} (hs : Shp R) (h : MG t n s D I) :
    CN X 4 mX11_wallTold [(2, 306), (0, b)] I R (fun _ I' R' => MO t n (walS t n D b s) (walD t n D s) I' ∧ FR mT I I' ∧ R' = R) := by
  refine callee_b (by decide +kernel) (Nat.le_of_ble_eq_true rfl) rfl ?_
  have e0 : I 339 2 = D 339 2 := h.c0 (by decide)
  obtain ⟨-, ⟨-, -, -, -, r1, r2⟩, -⟩ := h.2.2.2
  refine S_X11_wallTold_0 (d1 := 2) (by omega) (c_isFull hs h.1 (by decide) (by omega) (by decide)) (fun z I1 R1 p => ?_)
  obtain ⟨k1, k2, k3, k4, rfl⟩ := p
  rw [e0] at k1 k2
  simp only at k2 k3
  unfold walS
  by_cases c6 : D 339 2 = 10
  · rw [if_pos c6] at k1 k2
    rw [cif_t c6]
    have zn : z ≠ 0 := fun c => by obtain ⟨q, hq⟩ := k2.mp c; exact fltA_in hq
    refine S_X11_wallTold_8 (by omega) (fun g => absurd g zn) (fun _ => ?_)
    refine S_X11_wallTold_11 ⟨?_, rdT k4, rfl⟩
    cases s with
    | inl q => exact ⟨k1, h.2.2.1.rd k4⟩
    | inr f => exact ⟨k1, h.2.2.1.rd k4⟩
  rw [if_neg c6] at k1 k2
  rw [cif_f c6]
  have hG1 := h.rd k1 k4
  refine S_X11_wallTold_8 (by omega) (fun g => ?_) (fun g => ?_)
  rotate_left
  · cases s with
    | inl q => exact absurd (k2.mpr ⟨q, rfl⟩) g
    | inr f =>
      rw [plaS_f]
      exact S_X11_wallTold_11 ⟨⟨k1, hG1.2.2.1⟩, rdT k4, rfl⟩
  refine S_X11_wallTold_12 (d1 := 3) (by omega) (c_placeTold (w := 1) hs hG1 (Or.inr rfl)) (fun v I2 R2 p => ?_)
  obtain ⟨j1, j2, rfl, j4⟩ := p
  have et : ((1 : Int) ≠ 0) = True := eq_true (by decide)
  rw [et] at j1 j4
  cases hN : plaS t n D True s with
  | inr f =>
    rw [hN] at j1
    refine S_X11_wallTold_17 j1.1.r5 (fun g => absurd g j1.1.bad) (fun _ => ?_)
    exact S_X11_wallTold_24 ⟨⟨j1.1, j1.2.2.1⟩, (rdT k4).tr (plT j2), rfl⟩
  | inl q' =>
    obtain ⟨hx, hy⟩ := j4 q' hN
    obtain ⟨w1, w2, w3, w4⟩ := pla_in hN
    rw [hN] at j1
    have e2 : I2 339 2 = D 339 2 := j1.c0 (by decide)
    refine S_X11_wallTold_17 j1.1.r5 (fun _ => ?_) (fun g => absurd j1.1.ok g)
    have t1 : tD 344 (2 * D 339 2) := by unfold tD; omega
    have t2 : tD 344 (2 * D 339 2 + 1) := by unfold tD; omega
    have t3 : tD 339 2 := by unfold tD; omega
    have e3 : (u2 I2 344 (2 * I2 339 2) (I2 306 57)) 339 2 = D 339 2 := by rw [u2_o (by decide)]; exact e2
    have e4 : (u2 I2 344 (2 * I2 339 2) (I2 306 57)) 306 58 = I2 306 58 := u2_o (by decide)
    have hn : ¬ psT D (vN t n s) (vN t n (plaX t n D s)) := fun c => w1 (Or.inr (Or.inl c))
    refine S_X11_wallTold_25 hs (by omega) (by omega) ⟨?_, ?_, rfl⟩
    · simp only [e3, e2, hx, hy, u2_o (show (339 : Int) ≠ 344 by decide), u2_o (show (306 : Int) ≠ 344 by decide)]
      exact ⟨((j1.1.u t1).u t2).u t3, (j1.2.1.u).u.u, ((j1.2.2.1.u t1).u t2).u t3, GD_wal j1.2.2.2 c6 w3 w4 hn⟩
    · simp only [e4, e3, e2, u2_o (show (339 : Int) ≠ 344 by decide)]
      exact ((rdT k4).tr (plT j2)).tr (((tDT t1).tr (tDT t2)).tr (tDT t3))
