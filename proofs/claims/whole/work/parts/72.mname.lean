/-! ===== the model reads a square's text: names and places ===== -/
theorem MSt.frP {t : Int → Int} {n : Int} {s : SA} {I I' : PF} {P : Int → Int → Prop} (h : MSt t n s I) (g : FR P I I') (hP : ∀ y, P 306 y → y ≠ 2 ∧ y ≠ 3 ∧ y ≠ 4 ∧ y ≠ 5 ∧ y ≠ 6) (h7 : ∀ y, ¬ P 307 y) : MSt t n s I' := by
  have e : ∀ y, (y = 2 ∨ y = 3 ∨ y = 4 ∨ y = 5 ∨ y = 6) → I' 306 y = I 306 y := fun y hy => g 306 y (fun c => by have := hP y c; omega)
  have e7 : I' 307 = I 307 := funext fun y => g 307 y (h7 y)
  have e2 := e 2 (by decide)
  have e3 := e 3 (by decide)
  have e4 := e 4 (by decide)
  have e5 := e 5 (by decide)
  have e6 := e 6 (by decide)
  obtain ⟨⟨p1, p2, p3, p4, p5, p6, p7, p8, p9⟩, h1⟩ := h
  refine ⟨⟨e7.trans p1, e3.trans p2, p3, p4, p5, by rw [e2]; exact p6, by rw [e2]; exact p7, by rw [e4]; exact p8, by rw [e5, e6]; exact p9⟩, ?_⟩
  cases s with
  | inl q =>
    obtain ⟨a1, a2, a3, a4, a5, a6⟩ := h1
    exact ⟨e5.trans a1, a2, by rw [e2]; exact a3, by rw [e2]; exact a4, by rw [e4]; exact a5, by rw [e4]; exact a6⟩
  | inr f =>
    obtain ⟨a1, a2, a3⟩ := h1
    exact ⟨e5.trans a1, a2, e6.trans a3⟩
theorem MSt.failA {t : Int → Int} {n : Int} {q : Int × Bool} {I : PF} {k p : Int} (h : MSt t n (.inl q) I) (hk : 1 ≤ k ∧ k ≤ 5) : MSt t n (.inr (k, p)) (u2 (u2 I 306 5 k) 306 6 p) := by
  obtain ⟨⟨p1, p2, p3, p4, p5, p6, p7, p8, p9⟩, h1, h3⟩ := h
  refine ⟨⟨?_, ?_, p3, p4, p5, ?_, ?_, ?_, ?_⟩, ?_, ?_, ?_⟩
  all_goals grind [u2]
theorem c_failA {X : CX} {I R : PF} {t : Int → Int} {n k p : Int} {s : SA} (h : MSt t n s I) (hk : 1 ≤ k ∧ k ≤ 5) : CN X 1 mX11_fail [(2, 306), (0, k), (0, p)] I R (fun _ I' R' => MSt t n (fltA k p s) I' ∧ FR mRd I I' ∧ R' = R) := by
  refine (c_fail (x := k) (y := p) h.r5).mono (fun v I' R' q => ?_)
  obtain ⟨rfl, rfl⟩ := q
  cases s with
  | inl q =>
    rw [if_pos h.ok]
    exact ⟨h.failA hk, FR.tr (FR_u2 ⟨rfl, by decide⟩) (FR_u2 ⟨rfl, by decide⟩), rfl⟩
  | inr f =>
    rw [if_neg h.bad]
    exact ⟨h, FR.rf, rfl⟩
def inL (v : Int) : Prop := -9223372036854775808 ≤ v ∧ v < 9223372036854775808
theorem nmo_loop {X : CX} {d : Nat} {I R : PF} {Q : PV → PF → PF → Prop} {x1 y2 : Int} (hs : Shp R) (hx : 0 ≤ x1 ∧ x1 ≤ 1) (hm : 0 ≤ I 339 x1 ∧ I 339 x1 ≤ 6) (hc : ∀ k, 0 ≤ k → k < I 339 x1 → inL (I 340 (6 * x1 + k))) (hy : inL y2) : ∀ (k : Nat) (x4 : Int), (I 339 x1 - x4).toNat < k → 0 ≤ x4 → x4 ≤ I 339 x1 → (∀ j, 0 ≤ j → j < x4 → I 340 (6 * x1 + j) ≠ y2) →
    (∀ r, Fst (fun k => I 340 (6 * x1 + k) = y2) (I 339 x1) r → Q (0, r) I R) → PN X d mX11_nameOf 3 [(2, 306), (0, x1), (1, y2), (9, 0), (0, x4)] [] I R Q := by
  intro k
  induction k with
  | zero => intro x4 h; exact absurd h (Nat.not_lt_zero _)
  | succ k ih =>
    intro x4 h h0 h1 hj hQ
    refine S_X11_nameOf_3 hs (by omega) (by omega) (by omega) (fun g => ?_) (fun g => ?_)
    · exact S_X11_nameOf_40 (hQ _ (Or.inl ⟨rfl, fun i i0 i1 => hj i i0 (by omega)⟩))
    · refine S_X11_nameOf_14 hs (by omega) (hc x4 h0 g) hy (fun g2 => ?_) (fun g2 => ?_)
      · refine S_X11_nameOf_34 (ih (x4 + 1) (by omega) (by omega) (by omega) (fun j j0 j1 => ?_) hQ)
        by_cases e : j = x4
        · rw [e]; exact g2
        · exact hj j j0 (by omega)
      · exact S_X11_nameOf_31 (hQ _ (Or.inr ⟨h0, g, g2, hj⟩))
theorem c_nameOf {X : CX} {I R : PF} {x1 y2 : Int} (hs : Shp R) (hx : 0 ≤ x1 ∧ x1 ≤ 1) (hm : 0 ≤ I 339 x1 ∧ I 339 x1 ≤ 6) (hc : ∀ k, 0 ≤ k → k < I 339 x1 → inL (I 340 (6 * x1 + k))) (hy : inL y2) :
    CN X 0 mX11_nameOf [(2, 306), (0, x1), (1, y2)] I R (fun v I' R' => v.2 = fI (fun k => I 340 (6 * x1 + k) = y2) (I 339 x1) ∧ I' = I ∧ R' = R) := by
  refine callee_b (by decide +kernel) (Nat.le_of_ble_eq_true rfl) rfl ?_
  exact S_X11_nameOf_0 (nmo_loop hs hx hm hc hy _ 0 (Nat.lt_succ_self _) (Int.le_refl _) (by omega) (fun j j0 j1 => by omega) (fun r hr => ⟨hr.fI, rfl, rfl⟩))
theorem c_isFull {X : CX} {I R : PF} {t : Int → Int} {n x1 x2 b : Int} {s : SA} (hs : Shp R) (h : MSt t n s I) (hx : 0 ≤ x1 ∧ x1 < 6) (hm : inR (I 339 x1)) (h2 : inR x2) :
    CN X 2 mX11_isFull [(2, 306), (0, x1), (0, x2), (0, b)] I R (fun v I' R' => MSt t n (if I 339 x1 = x2 then fltA 5 b s else s) I' ∧ (v.2 = 0 ↔ ∃ q, (if I 339 x1 = x2 then fltA 5 b s else s) = .inl q) ∧ (v.2 = 0 ∨ v.2 = 1) ∧ FR mRd I I' ∧ R' = R) := by
  refine callee_b (by decide +kernel) (Nat.le_of_ble_eq_true rfl) rfl ?_
  have fin : ∀ (I' : PF) (s' : SA), MSt t n s' I' → s' = (if I 339 x1 = x2 then fltA 5 b s else s) → FR mRd I I' → PN X 2 mX11_isFull 23 [(2, 306)] [] I' R (fun v I' R' => MSt t n (if I 339 x1 = x2 then fltA 5 b s else s) I' ∧ (v.2 = 0 ↔ ∃ q, (if I 339 x1 = x2 then fltA 5 b s else s) = .inl q) ∧ (v.2 = 0 ∨ v.2 = 1) ∧ FR mRd I I' ∧ R' = R) := fun I' s' k1 k2 k3 => by
    rw [← k2]
    refine S_X11_isFull_23 k1.r5 (fun g => ?_) (fun g => ?_)
    · refine S_X11_isFull_34 (S_X11_isFull_35 (by decide) ⟨k1, ⟨fun _ => ?_, fun _ => rfl⟩, Or.inl rfl, k3, rfl⟩)
      cases s' with
      | inl q => exact ⟨q, rfl⟩
      | inr f => exact absurd g k1.bad
    · refine S_X11_isFull_30 (S_X11_isFull_35 (by decide) ⟨k1, ⟨fun c => absurd c (by decide), fun c => ?_⟩, Or.inr rfl, k3, rfl⟩)
      obtain ⟨q, rfl⟩ := c
      exact absurd k1.ok g
  refine S_X11_isFull_0 h.r5 (fun g => ?_) (fun g => ?_)
  · refine fin I s h ?_ FR.rf
    cases s with
    | inl q => exact absurd h.ok g
    | inr f => split <;> rfl
  · refine S_X11_isFull_7 hs (by omega) hm h2 (fun g2 => fin I s h (by rw [if_neg g2]) FR.rf) (fun g2 => ?_)
    refine S_X11_isFull_17 (d1 := 1) (by omega) (c_failA h (by decide)) (fun z I2 R2 q => ?_)
    obtain ⟨k1, k2, rfl⟩ := q
    exact fin I2 _ k1 (by rw [if_pos g2]) k2
/-- the told cells of the model -/
def tD (x y : Int) : Prop := (x = 306 ∧ (y = 48 ∨ y = 53)) ∨ (x = 339 ∧ 0 ≤ y ∧ y < 3) ∨ (x = 340 ∧ 0 ≤ y ∧ y < 12) ∨ (x = 341 ∧ 0 ≤ y ∧ y < 5) ∨ (x = 342 ∧ 0 ≤ y ∧ y < 24) ∨ x = 343 ∨ (x = 344 ∧ 0 ≤ y ∧ y < 20) ∨ (x = 345 ∧ 0 ≤ y ∧ y < 2) ∨ (x = 346 ∧ 0 ≤ y ∧ y < 2) ∨ (x = 347 ∧ 0 ≤ y ∧ y < 1600)
def AgD (D I : PF) : Prop := ∀ x y, tD x y → I x y = D x y
theorem AgD.fr {D I I' : PF} {P : Int → Int → Prop} (h : AgD D I) (g : FR P I I') (hP : ∀ x y, tD x y → ¬ P x y) : AgD D I' := fun x y c => (g x y (hP x y c)).trans (h x y c)
theorem tD_rd {x y : Int} (h : tD x y) : ¬ mRd x y := fun c => by unfold tD at h; unfold mRd at c; omega
/-- what a step of the model's text reading needs: the cells tell D -/
def MG (t : Int → Int) (n : Int) (s : SA) (D I : PF) : Prop := MSt t n s I ∧ AgD D I ∧ CW I ∧ GD D
theorem MG.rd {t : Int → Int} {n : Int} {s s' : SA} {D I I' : PF} (h : MG t n s D I) (h1 : MSt t n s' I') (g : FR mRd I I') : MG t n s' D I' := ⟨h1, h.2.1.fr g (fun x y c => tD_rd c), h.2.2.1.rd g, h.2.2.2⟩
theorem okW.l {v : Int} (h : okW v) : inL v := by unfold okW at h; unfold inL; omega
theorem MG.c0 {t : Int → Int} {n : Int} {s : SA} {D I : PF} (h : MG t n s D I) {k : Int} (hk : 0 ≤ k ∧ k < 3) : I 339 k = D 339 k := h.2.1 339 k (Or.inr (Or.inl ⟨rfl, hk.1, hk.2⟩))
theorem MG.nm {t : Int → Int} {n : Int} {s : SA} {D I : PF} (h : MG t n s D I) {k : Int} (hk : 0 ≤ k ∧ k < 12) : I 340 k = D 340 k := h.2.1 340 k (Or.inr (Or.inr (Or.inl ⟨rfl, hk.1, hk.2⟩)))
theorem nv_1 (t : Int → Int) (a : Int) : nv t a 1 = 27 * 0 + t (a + 0) - 97 + 1 := rfl
theorem nv_2 (t : Int → Int) (a : Int) : nv t a 2 = 27 * nv t a 1 + t (a + 1) - 97 + 1 := rfl
theorem nv_3 (t : Int → Int) (a : Int) : nv t a 3 = 27 * nv t a 2 + t (a + 2) - 97 + 1 := rfl
theorem nv_4 (t : Int → Int) (a : Int) : nv t a 4 = 27 * nv t a 3 + t (a + 3) - 97 + 1 := rfl
theorem nv_5 (t : Int → Int) (a : Int) : nv t a 5 = 27 * nv t a 4 + t (a + 4) - 97 + 1 := rfl
theorem nv_6 (t : Int → Int) (a : Int) : nv t a 6 = 27 * nv t a 5 + t (a + 5) - 97 + 1 := rfl
/-- a name as the class holds it: six letters, 0 behind it -/
def pad (v : Int) : Int := if v < 27 then 14348907 * v else if v < 729 then 531441 * v else if v < 19683 then 19683 * v else if v < 531441 then 729 * v else if v < 14348907 then 27 * v else v
theorem valW_l {t : Int → Int} {n : Int} {q : Int × Bool} (h : lenW t n q ≤ 6) (hW : isW t n q) : okW (valW t n q) ∧ cdW t n q = pad (valW t n q) := by
  have h0 := lenW_pos hW
  have hl : ∀ i, 0 ≤ i → i < lenW t n q → 97 ≤ t (skp t n q.1 + i) ∧ t (skp t n q.1 + i) ≤ 122 := fun i i0 i1 => lenW_let i0 i1
  have e1 := nv_1 t (skp t n q.1)
  have e2 := nv_2 t (skp t n q.1)
  have e3 := nv_3 t (skp t n q.1)
  have e4 := nv_4 t (skp t n q.1)
  have e5 := nv_5 t (skp t n q.1)
  have e6 := nv_6 t (skp t n q.1)
  have ec : cdW t n q = 14348907 * (if 0 < lenW t n q then t (skp t n q.1 + 0) - 96 else 0) + 531441 * (if 1 < lenW t n q then t (skp t n q.1 + 1) - 96 else 0) + 19683 * (if 2 < lenW t n q then t (skp t n q.1 + 2) - 96 else 0) + 729 * (if 3 < lenW t n q then t (skp t n q.1 + 3) - 96 else 0) + 27 * (if 4 < lenW t n q then t (skp t n q.1 + 4) - 96 else 0) + (if 5 < lenW t n q then t (skp t n q.1 + 5) - 96 else 0) := rfl
  rw [ec]
  unfold valW okW pad
  obtain ⟨L, hL⟩ : ∃ L : Nat, lenW t n q = L := ⟨(lenW t n q).toNat, by omega⟩
  rw [hL] at h h0 hl ⊢
  rw [Int.toNat_natCast]
  have hz : L = 1 ∨ L = 2 ∨ L = 3 ∨ L = 4 ∨ L = 5 ∨ L = 6 := by omega
  have b0 := hl 0 (by omega) (by omega)
  have b1 := hl 1 (by omega)
  have b2 := hl 2 (by omega)
  have b3 := hl 3 (by omega)
  have b4 := hl 4 (by omega)
  have b5 := hl 5 (by omega)
  rcases hz with rfl | rfl | rfl | rfl | rfl | rfl
  · rw [if_pos (by decide), if_neg (by decide), if_neg (by decide), if_neg (by decide), if_neg (by decide), if_neg (by decide)]
    rw [if_pos (by omega)]; omega
  · have b1 := b1 (by decide)
    rw [if_pos (by decide), if_pos (by decide), if_neg (by decide), if_neg (by decide), if_neg (by decide), if_neg (by decide)]
    rw [if_neg (by omega), if_pos (by omega)]; omega
  · have b1 := b1 (by decide)
    have b2 := b2 (by decide)
    rw [if_pos (by decide), if_pos (by decide), if_pos (by decide), if_neg (by decide), if_neg (by decide), if_neg (by decide)]
    rw [if_neg (by omega), if_neg (by omega), if_pos (by omega)]; omega
  · have b1 := b1 (by decide)
    have b2 := b2 (by decide)
    have b3 := b3 (by decide)
    rw [if_pos (by decide), if_pos (by decide), if_pos (by decide), if_pos (by decide), if_neg (by decide), if_neg (by decide)]
    rw [if_neg (by omega), if_neg (by omega), if_neg (by omega), if_pos (by omega)]; omega
  · have b1 := b1 (by decide)
    have b2 := b2 (by decide)
    have b3 := b3 (by decide)
    have b4 := b4 (by decide)
    rw [if_pos (by decide), if_pos (by decide), if_pos (by decide), if_pos (by decide), if_pos (by decide), if_neg (by decide)]
    rw [if_neg (by omega), if_neg (by omega), if_neg (by omega), if_neg (by omega), if_pos (by omega)]; omega
  · have b1 := b1 (by decide)
    have b2 := b2 (by decide)
    have b3 := b3 (by decide)
    have b4 := b4 (by decide)
    have b5 := b5 (by decide)
    rw [if_pos (by decide), if_pos (by decide), if_pos (by decide), if_pos (by decide), if_pos (by decide), if_pos (by decide)]
    rw [if_neg (by omega), if_neg (by omega), if_neg (by omega), if_neg (by omega), if_neg (by omega)]; omega
theorem pad_inj {v w : Int} (hv : okW v) (hw : okW w) (h : pad v = pad w) : v = w := by
  unfold okW at hv hw
  unfold pad at h
  repeat' split at h
  all_goals omega
theorem nam_ok {t : Int → Int} {n : Int} {q q' : Int × Bool} (h : namS t n (.inl q) = .inl q') : isW t n q ∧ lenW t n q ≤ 6 ∧ q' = (run isL t n (skp t n q.1), true) := by
  have en : namS t n (.inl q) = if ¬ isW t n q ∨ tw t n (.inl q) ∈ ow5 then .inr (1, skp t n q.1) else if 6 < lenW t n q then .inr (1, skp t n q.1 + 6) else .inl (run isL t n (skp t n q.1), true) := rfl
  rw [en] at h
  by_cases g : ¬ isW t n q ∨ tw t n (.inl q) ∈ ow5
  · rw [if_pos g] at h; cases h
  · rw [if_neg g] at h
    by_cases g2 : 6 < lenW t n q
    · rw [if_pos g2] at h; cases h
    · rw [if_neg g2] at h
      cases h
      have : isW t n q := by
        by_cases c : isW t n q
        · exact c
        · exact absurd (Or.inl c) g
      exact ⟨this, by omega, rfl⟩
theorem c_newName {X : CX} {I R : PF} {t : Int → Int} {n : Int} {s : SA} {D : PF} (hs : Shp R) (h : MG t n s D I) :
    CN X 5 mX11_newName [(2, 306)] I R (fun v I' R' => MG t n (newS t n D s) D I' ∧ FR mRd I I' ∧ R' = R ∧ (∀ q', newS t n D s = .inl q' → v.2 = vW t n s)) := by
  refine callee_b (by decide +kernel) (Nat.le_of_ble_eq_true rfl) rfl ?_
  have fin : ∀ (I' : PF) (s' : SA) (v : Int), MSt t n s' I' → s' = newS t n D s → FR mRd I I' → (∀ q', s' = .inl q' → v = vW t n s) → PN X 5 mX11_newName 44 [(9, 0), (1, v)] [] I' R (fun v I' R' => MG t n (newS t n D s) D I' ∧ FR mRd I I' ∧ R' = R ∧ (∀ q', newS t n D s = .inl q' → v.2 = vW t n s)) := fun I' s' v k1 k2 k3 k4 => by
    rw [← k2]
    exact S_X11_newName_44 ⟨h.rd k1 k3, k3, rfl, k4⟩
  refine S_X11_newName_0 (d1 := 4) (by omega) (c_name hs h.1 h.2.2.1) (fun z I1 R1 p => ?_)
  obtain ⟨m1, f1, rfl, v1, v2⟩ := p
  refine S_X11_newName_4 ?_
  have hG1 := h.rd m1 f1
  have step : ∀ (x : Int) (I' : PF), (x = 0 ∨ x = 1) → inR (I' 306 5) → (I' 306 5 = 0 → PN X 5 mX11_newName 19 [(2, 306), (1, z), (9, 0), (0, x)] [] I' R1 (fun v I' R' => MG t n (newS t n D s) D I' ∧ FR mRd I I' ∧ R' = R1 ∧ (∀ q', newS t n D s = .inl q' → v.2 = vW t n s))) → (I' 306 5 ≠ 0 → PN X 5 mX11_newName 7 [(2, 306), (1, z), (9, 0), (0, x + 1)] [] I' R1 (fun v I' R' => MG t n (newS t n D s) D I' ∧ FR mRd I I' ∧ R' = R1 ∧ (∀ q', newS t n D s = .inl q' → v.2 = vW t n s))) → PN X 5 mX11_newName 7 [(2, 306), (1, z), (9, 0), (0, x)] [] I' R1 (fun v I' R' => MG t n (newS t n D s) D I' ∧ FR mRd I I' ∧ R' = R1 ∧ (∀ q', newS t n D s = .inl q' → v.2 = vW t n s)) := fun x I' hx hr a b => by
    refine S_X11_newName_7 (by omega) (fun g => by omega) (fun _ => ?_)
    exact S_X11_newName_12 hr (fun g => S_X11_newName_38 (b g)) (fun g => a g)
  -- a fault goes through
  have out : ∀ (x : Int) (I' : PF) (s' : SA), (x = 1 ∨ x = 2) → MSt t n s' I' → s' = newS t n D s → FR mRd I I' → (∀ q', s' = .inl q' → z = vW t n s ∧ x = 2) → PN X 5 mX11_newName 7 [(2, 306), (1, z), (9, 0), (0, x)] [] I' R1 (fun v I' R' => MG t n (newS t n D s) D I' ∧ FR mRd I I' ∧ R' = R1 ∧ (∀ q', newS t n D s = .inl q' → v.2 = vW t n s)) := fun x I' s' hx k1 k2 k3 k4 => by
    have e2 : PN X 5 mX11_newName 7 [(2, 306), (1, z), (9, 0), (0, 2)] [] I' R1 (fun v I' R' => MG t n (newS t n D s) D I' ∧ FR mRd I I' ∧ R' = R1 ∧ (∀ q', newS t n D s = .inl q' → v.2 = vW t n s)) :=
      S_X11_newName_7 (by omega) (fun _ => fin I' s' z k1 k2 k3 (fun q' e => (k4 q' e).1)) (fun g => by omega)
    rcases hx with rfl | rfl
    · refine step 1 I' (Or.inr rfl) k1.r5 (fun g => ?_) (fun _ => e2)
      cases s' with
      | inl q => exact absurd (k4 q rfl).2 (by decide)
      | inr f => exact absurd g k1.bad
    · exact e2
  cases hn : namS t n s with
  | inr f =>
    rw [hn] at m1 hG1
    have en : newS t n D s = .inr f := by
      unfold newS; rw [hn]
      by_cases c : knw D (vW t n s)
      · exact cif_t c
      · exact cif_f c
    refine step 0 I1 (Or.inl rfl) m1.r5 (fun g => absurd g m1.bad) (fun _ => ?_)
    exact out 1 I1 (.inr f) (Or.inl rfl) m1 en.symm f1 (fun q' e => by cases e)
  | inl q' =>
    cases s with
    | inr f => cases hn
    | inl q =>
    rw [hn] at m1 hG1
    obtain ⟨u1, v3⟩ := v1 q q' rfl hn
    simp only at u1
    obtain ⟨w1, w2, w3⟩ := nam_ok hn
    obtain ⟨w4, -⟩ := valW_l w2 w1
    have c0 := hG1.c0 (k := 0) (by decide)
    have c1 := hG1.c0 (k := 1) (by decide)
    obtain ⟨-, ⟨g1, g2, g3, g4, -⟩, g5, g6, -⟩ := h.2.2.2
    have zl : inL z := by rw [u1]; exact w4.l
    have a0 : ∀ k, 0 ≤ k → k < I1 339 0 → I1 340 (6 * 0 + k) = D 340 k := fun k k0 k1 => by
      rw [hG1.nm (by omega)]; rw [show 6 * 0 + k = k by omega]
    have a1 : ∀ k, 0 ≤ k → k < I1 339 1 → I1 340 (6 * 1 + k) = D 340 (6 + k) := fun k k0 k1 => by
      rw [hG1.nm (by omega), show 6 * 1 + k = 6 + k by omega]
    refine step 0 I1 (Or.inl rfl) m1.r5 (fun _ => ?_) (fun g => absurd m1.ok g)
    refine S_X11_newName_19 (d1 := 0) (by omega) (c_nameOf (x1 := 0) hs (by decide) (by omega) (fun k k0 k1 => by rw [a0 k k0 k1]; exact (g5 k k0 (by omega)).l) zl) (fun z2 I2 R2 p => ?_)
    obtain ⟨(hz : z2 = _), rfl, rfl⟩ := p
    have F0 := fI_fst (fun k => I2 340 (6 * 0 + k) = z) (I2 339 0)
    rw [← hz] at F0
    have bad : knw D (valW t n q) → PN X 5 mX11_newName 29 [(2, 306), (1, z), (9, 0), (0, 0)] [] I2 R2 (fun v I' R' => MG t n (newS t n D (.inl q)) D I' ∧ FR mRd I I' ∧ R' = R2 ∧ (∀ q', newS t n D (.inl q) = .inl q' → v.2 = vW t n (.inl q))) ∧ PN X 5 mX11_newName 29 [(2, 306), (1, z), (9, 0), (0, 1)] [] I2 R2 (fun v I' R' => MG t n (newS t n D (.inl q)) D I' ∧ FR mRd I I' ∧ R' = R2 ∧ (∀ q', newS t n D (.inl q) = .inl q' → v.2 = vW t n (.inl q))) := fun hk => by
      have en : newS t n D (.inl q) = .inr (3, skp t n q.1) := by
        unfold newS
        rw [cif_t (show knw D (vW t n (.inl q)) from hk), hn]; rfl
      have goe : ∀ x : Int, (x = 0 ∨ x = 1) → PN X 5 mX11_newName 29 [(2, 306), (1, z), (9, 0), (0, x)] [] I2 R2 (fun v I' R' => MG t n (newS t n D (.inl q)) D I' ∧ FR mRd I I' ∧ R' = R2 ∧ (∀ q', newS t n D (.inl q) = .inl q' → v.2 = vW t n (.inl q))) := fun x hx => by
        refine S_X11_newName_29 (d1 := 1) (by omega) (c_failA m1 (by decide)) (fun z3 I3 R3 p => ?_)
        obtain ⟨k1, k2, rfl⟩ := p
        rw [v3] at k1
        exact S_X11_newName_38 (out (x + 1) I3 (.inr (3, skp t n q.1)) (by omega) k1 en.symm (f1.tr k2) (fun q' e => by cases e))
      exact ⟨goe 0 (Or.inl rfl), goe 1 (Or.inr rfl)⟩
    have zr : -1 ≤ z2 ∧ z2 < 6 := by rcases F0 with ⟨e1, -⟩ | ⟨e1, e2, -⟩ <;> omega
    refine S_X11_newName_25 (by omega) (fun gz => ?_) (fun gz => ?_)
    rotate_left
    · refine (bad (Or.inl ?_)).1
      rcases F0 with ⟨e1, -⟩ | ⟨e1, e2, e3, -⟩
      · exact absurd e1 gz
      · exact ⟨z2, e1, by omega, by rw [← a0 z2 e1 e2, e3]; exact u1⟩
    have n0 : ∀ k, 0 ≤ k → k < D 339 0 → D 340 k ≠ valW t n q := fun k k0 k1 => by
      rcases F0 with ⟨-, e2⟩ | ⟨e1, -⟩
      · have this : ¬ I2 340 (6 * 0 + k) = z := e2 k k0 (by omega)
        rw [a0 k k0 (by omega), u1] at this
        exact this
      · omega
    refine S_X11_newName_38 ?_
    refine step 1 I2 (Or.inr rfl) m1.r5 (fun _ => ?_) (fun g => absurd m1.ok g)
    refine S_X11_newName_19 (d1 := 0) (by omega) (c_nameOf (x1 := 1) hs (by decide) (by omega) (fun k k0 k1 => by rw [a1 k k0 k1]; exact (g6 k k0 (by omega)).l) zl) (fun z4 I4 R4 p => ?_)
    obtain ⟨(hz4 : z4 = _), rfl, rfl⟩ := p
    have F1 := fI_fst (fun k => I4 340 (6 * 1 + k) = z) (I4 339 1)
    rw [← hz4] at F1
    have zr : -1 ≤ z4 ∧ z4 < 6 := by rcases F1 with ⟨e1, -⟩ | ⟨e1, e2, -⟩ <;> omega
    refine S_X11_newName_25 (by omega) (fun gz => ?_) (fun gz => ?_)
    rotate_left
    · refine (bad (Or.inr ?_)).2
      rcases F1 with ⟨e1, -⟩ | ⟨e1, e2, e3, -⟩
      · exact absurd e1 gz
      · exact ⟨z4, e1, by omega, by rw [← a1 z4 e1 e2, e3]; exact u1⟩
    have en : newS t n D (.inl q) = .inl q' := by
      unfold newS
      rw [cif_f, hn]
      rintro (⟨k, k0, k1, k2⟩ | ⟨k, k0, k1, k2⟩)
      · exact n0 k k0 k1 k2
      · rcases F1 with ⟨-, e2⟩ | ⟨e1, -⟩
        · have this : ¬ I4 340 (6 * 1 + k) = z := e2 k k0 (by omega)
          rw [a1 k k0 (by omega), u1] at this
          exact this k2
        · omega
    refine S_X11_newName_38 (out 2 I4 (.inl q') (Or.inr rfl) m1 en.symm f1 (fun q' e => ⟨u1, rfl⟩))
