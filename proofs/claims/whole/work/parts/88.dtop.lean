/-! ===== the class's square() ===== -/
theorem st_sep {a b : Int} (ha : kd MF a = 8) (hb : kd MF b = 8) (h : a ≠ b) : a + 8 ≤ b ∨ b + 8 ≤ a := by
  have one : ∀ {x y : Int}, kd MF x = 8 → kd MF y = 8 → x < y → x + 8 ≤ y := fun {x y} hx hy hl => by
    by_cases c : x + 8 ≤ y
    · exact c
    · exfalso
      by_cases c1 : y = x + 1
      · have := st1 hx
        rw [← c1] at this; omega
      · have := (stR hx (p := y - x - 2) (by omega) (by omega)).1
        rw [show x + 2 + (y - x - 2) = y by omega] at this; omega
  rcases Int.lt_or_gt_of_ne h with c | c
  · exact Or.inl (one ha hb c)
  · exact Or.inr (one hb ha c)
theorem cpF_loop {X : CX} {d : Nat} {R : PF} {Q : PV → PF → PF → Prop} {a b m : Int} {I0 : PF} (hs : Shp R) (hd : 1 ≤ d) (ha : kd MF a = 8) (hb : kd MF b = 8) (hab : a + 8 ≤ b ∨ b + 8 ≤ a) (hm : I0 a 3 = m) (hm6 : 0 ≤ m ∧ m ≤ 6) : ∀ (k : Nat) (x : Int) (I : PF), (m - x).toNat < k → 0 ≤ x → x ≤ m → (∀ p j, 0 ≤ p → p < x → 0 ≤ j → j < 8 → I (a + 2 + p) j = I0 (b + 2 + p) j) → FR (fun x j => a + 2 ≤ x ∧ x ≤ a + 7 ∧ 0 ≤ j ∧ j < 8) I0 I →
    (∀ I', (∀ p j, 0 ≤ p → p < m → 0 ≤ j → j < 8 → I' (a + 2 + p) j = I0 (b + 2 + p) j) → FR (fun x j => a + 2 ≤ x ∧ x ≤ a + 7 ∧ 0 ≤ j ∧ j < 8) I0 I' → Q (9, 0) I' R) → PN X d mX8_copyFrom 34 [(2, a), (2, b), (0, x)] [] I R Q := by
  intro k
  induction k with
  | zero => intro x4 I h; exact absurd h (Nat.not_lt_zero _)
  | succ k ih =>
    intro x I h h0 h1 hj hf hQ
    have em : I a 3 = m := (hf a 3 (fun c => by omega)).trans hm
    refine S_X8_copyFrom_34 ha (by omega) (by omega) (fun g => ?_) (fun g => ?_)
    · have : x = m := by omega
      subst this
      exact S_X8_copyFrom_67 (hQ I hj hf)
    · refine S_X8_copyFrom_42 hs hb (by omega) ha (by omega) hd ?_
      refine ih (x + 1) _ (by omega) (by omega) (by omega) (fun p j p0 p1 j0 j1 => ?_) (fun y j c => ?_) hQ
      · show (if _ then _ else _) = _
        by_cases c : p = x
        · rw [if_pos ⟨by omega, j0, by omega⟩, c, show 0 + (j - 0) = j by omega]
          exact hf _ j (fun c => by omega)
        · rw [if_neg (fun d => by omega)]; exact hj p j p0 (by omega) j0 j1
      · show (if _ then _ else _) = _
        rw [if_neg (fun d => c (by omega))]; exact hf y j c
/-- the cells of a state -/
def stC (a x j : Int) : Prop := (x = a ∧ 0 ≤ j ∧ j ≤ 3) ∨ (a + 2 ≤ x ∧ x ≤ a + 7 ∧ 0 ≤ j ∧ j < 8)
theorem c_copyFrom {X : CX} {I R : PF} {a b : Int} (hs : Shp R) (ha : kd MF a = 8) (hb : kd MF b = 8) (hab : a ≠ b) (hm : 0 ≤ I b 3 ∧ I b 3 ≤ 6) :
    CN X 1 mX8_copyFrom [(2, a), (2, b)] I R (fun _ I' R' => I' a 0 = I b 0 ∧ I' a 1 = I b 1 ∧ I' a 2 = I b 2 ∧ I' a 3 = I b 3 ∧ (∀ p j, 0 ≤ p → p < I b 3 → 0 ≤ j → j < 8 → I' (a + 2 + p) j = I (b + 2 + p) j) ∧ FR (stC a) I I' ∧ R' = R) := by
  refine callee_b (by decide +kernel) (Nat.le_of_ble_eq_true rfl) rfl ?_
  have sep := st_sep ha hb hab
  have e1 : (u2 I a 0 (I b 0)) b 1 = I b 1 := u2_o (by omega)
  have e2 : (u2 (u2 I a 0 (I b 0)) a 1 (I b 1)) b 2 = I b 2 := by rw [u2_o (by omega), u2_o (by omega)]
  have e3 : (u2 (u2 (u2 I a 0 (I b 0)) a 1 (I b 1)) a 2 (I b 2)) b 3 = I b 3 := by rw [u2_o (by omega), u2_o (by omega), u2_o (by omega)]
  refine S_X8_copyFrom_0 hb ha ?_
  rw [e1, e2, e3]
  have f0 : FR (stC a) I (u2 (u2 (u2 (u2 I a 0 (I b 0)) a 1 (I b 1)) a 2 (I b 2)) a 3 (I b 3)) := FR.tr (FR.tr (FR.tr (FR_u2 (Or.inl ⟨rfl, by decide, by decide⟩)) (FR_u2 (Or.inl ⟨rfl, by decide, by decide⟩))) (FR_u2 (Or.inl ⟨rfl, by decide, by decide⟩))) (FR_u2 (Or.inl ⟨rfl, by decide, by decide⟩))
  have v0 : (u2 (u2 (u2 (u2 I a 0 (I b 0)) a 1 (I b 1)) a 2 (I b 2)) a 3 (I b 3)) a 0 = I b 0 := by rw [u2_j (by decide), u2_j (by decide), u2_j (by decide), u2_at]
  have v1 : (u2 (u2 (u2 (u2 I a 0 (I b 0)) a 1 (I b 1)) a 2 (I b 2)) a 3 (I b 3)) a 1 = I b 1 := by rw [u2_j (by decide), u2_j (by decide), u2_at]
  have v2 : (u2 (u2 (u2 (u2 I a 0 (I b 0)) a 1 (I b 1)) a 2 (I b 2)) a 3 (I b 3)) a 2 = I b 2 := by rw [u2_j (by decide), u2_at]
  have v3 : (u2 (u2 (u2 (u2 I a 0 (I b 0)) a 1 (I b 1)) a 2 (I b 2)) a 3 (I b 3)) a 3 = I b 3 := u2_at
  generalize u2 (u2 (u2 (u2 I a 0 (I b 0)) a 1 (I b 1)) a 2 (I b 2)) a 3 (I b 3) = J at f0 v0 v1 v2 v3
  refine cpF_loop (I0 := J) hs (by decide) ha hb sep v3 hm _ 0 J (Nat.lt_succ_self _) (Int.le_refl _) hm.1 (fun p j p0 p1 => by omega) FR.rf (fun I' k1 k2 => ⟨?_, ?_, ?_, ?_, fun p j p0 p1 j0 j1 => ?_, f0.tr (k2.mono (fun x j c => Or.inr c)), rfl⟩)
  · rw [k2 a 0 (fun c => by omega)]; exact v0
  · rw [k2 a 1 (fun c => by omega)]; exact v1
  · rw [k2 a 2 (fun c => by omega)]; exact v2
  · rw [k2 a 3 (fun c => by omega)]; exact v3
  · rw [k1 p j p0 p1 j0 j1]; exact f0 _ j (fun c => by unfold stC at c; omega)
theorem c_takeTape {X : CX} {I R : PF} : CN X 0 mX10_takeTape [(2, 64)] I R (fun v I' R' => v.2 = I 64 1 ∧ I' = u2 I 64 1 0 ∧ R' = R) := by
  refine callee_b (by decide +kernel) (Nat.le_of_ble_eq_true rfl) rfl ?_
  exact S_X10_takeTape_0 ⟨rfl, rfl, rfl⟩
theorem c_keepFault {X : CX} {I R : PF} (hs : Shp R) : CN X 0 mX10_keepFault [(2, 64)] I R (fun _ I' R' => I' = u2 (u2 I 64 3 (I 67 8)) 64 4 (I 67 9) ∧ R' = R) := by
  refine callee_b (by decide +kernel) (Nat.le_of_ble_eq_true rfl) rfl ?_
  exact S_X10_keepFault_0 hs ⟨by rw [u2_o (show (67 : Int) ≠ 64 by decide)], rfl⟩
theorem c_forget {X : CX} {I R : PF} : CN X 0 mX4_forget [(2, 136)] I R (fun _ I' R' => I' = u2 (u2 I 136 1 0) 136 5 0 ∧ R' = R) := by
  refine callee_b (by decide +kernel) (Nat.le_of_ble_eq_true rfl) rfl ?_
  exact S_X4_forget_0 ⟨rfl, rfl⟩
/-- the cells that the class's square() changes, o the spare square -/
def dTop (o x y : Int) : Prop := dS o x y ∨ (x = 64 ∧ (y = 1 ∨ y = 3 ∨ y = 4 ∨ y = 17)) ∨ (x = 66 ∧ y = 1) ∨ stC 111 x y ∨ (x = 136 ∧ (y = 1 ∨ y = 5))
def dTR (x y : Int) : Prop := dSR x y ∨ (x = 64 ∧ (y = 8 ∨ y = 9))
theorem dTR_mR {R R' : PF} (h : FR dTR R R') : FR mR R R' := h.mono (fun x y c => by unfold dTR dSR at c; unfold mR; omega)
/-- what the class's square() leaves behind -/
def DSq (r : SA × PF × Int) (p o v : Int) (I I' R' : PF) : Prop := match r.1 with
  | .inl _ => v = r.2.2 ∧ GD r.2.1 ∧ QR r.2.1 o I' ∧ LR r.2.1 o I' ∧ R' 64 8 = o ∧ R' 64 9 = p ∧ I' 64 3 = 0 ∧ I' 64 4 = -1 ∧ I' 64 17 = 0 ∧ I' 136 1 = 0 ∧ I' 136 5 = 0 ∧
      I' 111 0 = 0 ∧ I' 111 1 = -1 ∧ I' 111 2 = 0 ∧ I' 111 3 = r.2.1 339 1 ∧ (∀ q j, 0 ≤ q → q < r.2.1 339 1 → 0 ≤ j → j < 8 → I' (113 + q) j = I' (o + 11 + 2 + q) j) ∧ (∀ j, I' 66 j = I 66 j)
  | .inr f => v = -1 ∧ I' 64 3 = f.1 ∧ f.1 ≠ 0 ∧ I' 64 4 = f.2 ∧ R' 64 8 = p ∧ R' 64 9 = o ∧ (∀ j, I' 66 j = (u2 I 66 1 (I 66 1 + 1)) 66 j) ∧ (∀ x y, (stC 111 x y ∨ (x = 64 ∧ y = 17) ∨ (x = 136 ∧ (y = 1 ∨ y = 5))) → I' x y = I x y)
theorem c_dsquare {X : CX} {I R : PF} {t : Int → Int} {n p o : Int} {D : PF} (hs : Shp R) (h65 : I 65 = t) (h1 : I 64 1 = n) (hn : 0 ≤ n ∧ n ≤ 1600) (hT : ∀ j, 0 ≤ j → j < 1600 → 0 ≤ t j ∧ t j ≤ 255) (hp : R 64 8 = p) (ho' : R 64 9 = o) (kp : kd MF p = 6) (ko : kd MF o = 6) (hpo : p ≠ o) :
    CN X 37 mX10_square [(2, 64)] I R (fun v I' R' => DSq (sgR t n D) p o v.2 I I' R' ∧ I' 64 1 = 0 ∧ FR (dTop o) I I' ∧ FR dTR R R') := by
  refine callee_b (by decide +kernel) (Nat.le_of_ble_eq_true rfl) rfl ?_
  have ho := sq_o ko
  have k111 : kd MF 111 = 8 := by decide +kernel
  refine S_X10_square_0 (d1 := 0) hs (by omega) c_takeTape (fun z I1 R1 q => ?_)
  obtain ⟨(hz : z = _), rfl, rfl⟩ := q
  rw [h1] at hz
  have f1 : FR (dTop o) I (u2 I 64 1 0) := FR_u2 (Or.inr (Or.inl ⟨rfl, Or.inl rfl⟩))
  have a1 : (u2 I 64 1 0) 64 1 = 0 := u2_at
  have g1 : FR (fun x y => x = 64 ∧ y = 1) I (u2 I 64 1 0) := FR_u2 ⟨rfl, rfl⟩
  have e65 : (u2 I 64 1 0) 65 = t := by rw [u2_row (by decide)]; exact h65
  generalize u2 I 64 1 0 = J1 at f1 a1 g1 e65
  rw [hz]
  refine S_X10_square_8 (d1 := 36) ho' (by omega) (c_read (D := D) hs e65 hn hT ko) (fun v I2 R2 q => ?_)
  obtain ⟨k1, k2, k3, k4, k5, k6, k7⟩ := q
  have hs2 := hs.fr (dSR_mR k7)
  have f2 : FR (dTop o) I I2 := f1.tr (k6.mono (fun x y c => Or.inl c))
  refine S_X10_square_15 (d1 := 0) (by omega) (c_keepFault hs2) (fun z I3 R3 q => ?_)
  obtain ⟨rfl, rfl⟩ := q
  have g3 : FR (fun x y => x = 64 ∧ (y = 3 ∨ y = 4)) I2 (u2 (u2 I2 64 3 (I2 67 8)) 64 4 (I2 67 9)) := FR.tr (FR_u2 ⟨rfl, Or.inl rfl⟩) (FR_u2 ⟨rfl, Or.inr rfl⟩)
  have b3 : (u2 (u2 I2 64 3 (I2 67 8)) 64 4 (I2 67 9)) 64 3 = I2 67 8 := by rw [u2_j (by decide), u2_at]
  have b4 : (u2 (u2 I2 64 3 (I2 67 8)) 64 4 (I2 67 9)) 64 4 = I2 67 9 := u2_at
  generalize u2 (u2 I2 64 3 (I2 67 8)) 64 4 (I2 67 9) = J3 at g3 b3 b4
  have f3 : FR (dTop o) I J3 := f2.tr (g3.mono (fun x y c => Or.inr (Or.inl ⟨c.1, by omega⟩)))
  have r8 : R3 64 8 = p := (k7 64 8 (fun c => by unfold dSR at c; omega)).trans hp
  have r9 : R3 64 9 = o := (k7 64 9 (fun c => by unfold dSR at c; omega)).trans ho'
  have n64 : ∀ y, ¬ dS o 64 y := fun y c => by unfold dS sqC at c; omega
  have n66 : ∀ y, ¬ dS o 66 y := fun y c => by unfold dS sqC at c; omega
  have c1 : J3 64 1 = 0 := by rw [g3 64 1 (fun c => by omega), k6 64 1 (n64 1)]; exact a1
  have c66 : ∀ j, J3 66 j = I 66 j := fun j => by rw [g3 66 j (fun c => by omega), k6 66 j (n66 j), g1 66 j (fun c => by omega)]
  generalize hr : sgR t n D = r at k1 k2
  obtain ⟨s, D', c⟩ := r
  cases s with
  | inr f =>
    obtain ⟨(m1 : v = -1), m2, m3, m4⟩ := k1
    refine S_X10_square_20 (by omega) (fun g => absurd m1 g) (fun _ => ?_)
    have g5 : FR (fun x y => x = 66 ∧ y = 1) J3 (u2 J3 66 1 (J3 66 1 + 1)) := FR_u2 ⟨rfl, rfl⟩
    refine S_X10_square_25 hs2 ⟨⟨rfl, ?_, m3, ?_, r8, r9, fun j => ?_, fun x y h => ?_⟩, ?_, f3.tr (g5.mono (fun x y c => Or.inr (Or.inr (Or.inl c)))), k7.mono (fun x y c => Or.inl c)⟩
    · rw [g5 64 3 (fun c => by omega), b3]; exact m2
    · rw [g5 64 4 (fun c => by omega), b4]; exact m4
    · by_cases e : j = 1
      · rw [e, u2_at, u2_at, c66]
      · rw [u2_j e, u2_j e, c66]
    · have hx : x ≠ 66 := by unfold stC at h; omega
      have hx2 : ¬ (x = 64 ∧ (y = 3 ∨ y = 4)) := by unfold stC at h; omega
      have hx3 : ¬ dS o x y := by unfold stC at h; unfold dS sqC; omega
      have hx4 : ¬ (x = 64 ∧ y = 1) := by unfold stC at h; omega
      rw [g5 x y (fun c => hx c.1), g3 x y hx2, k6 x y hx3, g1 x y hx4]
    · rw [g5 64 1 (fun c => by omega)]; exact c1
  | inl q0 =>
    obtain ⟨(m1 : v = c), m2, m3, m4, m5, m6⟩ := k1
    have vr := k2 q0 rfl
    simp only at vr
    have m2 : QR D' o I2 := m2
    have m3 : GD D' := m3
    have m4 : LR D' o I2 := m4
    have hr3 := m3.r.2
    refine S_X10_square_20 (by omega) (fun _ => ?_) (fun g => by omega)
    -- the squares change places
    have t4 : (u2 (u2 R3 64 8 o) 64 9 p) 64 8 = o := by rw [u2_j (by decide), u2_at]
    have t9 : (u2 (u2 R3 64 8 o) 64 9 p) 64 9 = p := u2_at
    have gR : FR dTR R3 (u2 (u2 R3 64 8 o) 64 9 p) := FR.tr (FR_u2 (Or.inr ⟨rfl, Or.inl rfl⟩)) (FR_u2 (Or.inr ⟨rfl, Or.inr rfl⟩))
    have hs4 := hs2.fr (dTR_mR gR)
    have eP : J3 (o + 11) 3 = D' 339 1 := (g3 _ 3 (fun c => by omega)).trans m2.2.1.2.2.2
    generalize hRR : u2 (u2 R3 64 8 o) 64 9 p = RR at t4 t9 gR hs4
    refine S_X10_square_37 (d1 := 1) (t3 := 111) (t4 := o) (t5 := o + 11) r8 r9 (by rw [hRR]; exact rM64_11 hs4) (by rw [hRR]; exact t4) ko (by rw [hRR]; exact sh6_14 hs4 ko) (by omega) (by rw [hRR]; exact c_copyFrom hs4 k111 (sq11 ko) (by omega) (by omega)) k111 (fun z I5 R5 q => ?_)
    obtain ⟨x0, x1, x2, x3, x4, x5, rfl⟩ := q
    refine S_X10_square_69 (d1 := 0) hs4 (by omega) c_forget (fun z I6 R6 q => ?_)
    obtain ⟨rfl, rfl⟩ := q
    have g6 : FR (fun x y => (x = 136 ∧ (y = 1 ∨ y = 5)) ∨ (x = 64 ∧ y = 17)) I5 (u2 (u2 (u2 I5 136 1 0) 136 5 0) 64 17 0) := FR.tr (FR.tr (FR_u2 (Or.inl ⟨rfl, Or.inl rfl⟩)) (FR_u2 (Or.inl ⟨rfl, Or.inr rfl⟩))) (FR_u2 (Or.inr ⟨rfl, rfl⟩))
    have y1 : (u2 (u2 (u2 I5 136 1 0) 136 5 0) 64 17 0) 136 1 = 0 := by rw [u2_o (by decide), u2_j (by decide), u2_at]
    have y5 : (u2 (u2 (u2 I5 136 1 0) 136 5 0) 64 17 0) 136 5 = 0 := by rw [u2_o (by decide), u2_at]
    have y17 : (u2 (u2 (u2 I5 136 1 0) 136 5 0) 64 17 0) 64 17 = 0 := u2_at
    have w : ∀ x y, ¬ ((x = 136 ∧ (y = 1 ∨ y = 5)) ∨ (x = 64 ∧ y = 17)) → ¬ stC 111 x y → (u2 (u2 (u2 I5 136 1 0) 136 5 0) 64 17 0) x y = J3 x y := fun x y h1 h2 => (g6 x y h1).trans (x5 x y h2)
    have sqf : ∀ x, o ≤ x → x ≤ o + 18 → (u2 (u2 (u2 I5 136 1 0) 136 5 0) 64 17 0) x = I2 x := fun x h1 h2 => funext fun y => by
      rw [w x y (by omega) (fun c => by unfold stC at c; omega)]
      exact g3 x y (fun c => by omega)
    have now : ∀ x y, stC 111 x y → (u2 (u2 (u2 I5 136 1 0) 136 5 0) 64 17 0) x y = I5 x y := fun x y c => g6 x y (fun d => by unfold stC at c; omega)
    have s111 : ∀ y, 0 ≤ y ∧ y ≤ 3 → stC 111 111 y := fun y h => Or.inl ⟨rfl, h.1, h.2⟩
    refine S_X10_square_76 ⟨⟨m1, m3, m2.fr sqf m3, fun k k0 k1 => ?_, t4, t9, ?_, ?_, y17, y1, y5, ?_, ?_, ?_, ?_, fun q j q0 q1 j0 j1 => ?_, fun j => ?_⟩, ?_, ?_, (k7.mono (fun x y c => Or.inl c)).tr gR⟩
    · rw [sqf (o + 4) (by omega) (by omega)]; exact m4 k k0 k1
    · rw [w 64 3 (by omega) (fun c => by unfold stC at c; omega), b3]; exact m5
    · rw [w 64 4 (by omega) (fun c => by unfold stC at c; omega), b4]; exact m6
    · rw [now 111 0 (s111 0 (by decide)), x0, g3 _ _ (fun c => by omega)]; exact k3
    · rw [now 111 1 (s111 1 (by decide)), x1, g3 _ _ (fun c => by omega)]; exact k4
    · rw [now 111 2 (s111 2 (by decide)), x2, g3 _ _ (fun c => by omega)]; exact k5
    · rw [now 111 3 (s111 3 (by decide)), x3]; exact eP
    · have q1 : q < D' 339 1 := q1
      rw [now (113 + q) j (Or.inr ⟨by omega, by omega, j0, j1⟩), show 113 + q = 111 + 2 + q by omega, x4 q j q0 (by omega) j0 j1, sqf (o + 11 + 2 + q) (by omega) (by omega)]
      exact g3 _ _ (fun c => by omega)
    · rw [w 66 j (by omega) (fun c => by unfold stC at c; omega)]; exact c66 j
    · rw [w 64 1 (by omega) (fun c => by unfold stC at c; omega)]; exact c1
    · exact (f3.tr (x5.mono (fun x y c => Or.inr (Or.inr (Or.inr (Or.inl c)))))).tr (g6.mono (fun x y c => by
        rcases c with c | c
        · exact Or.inr (Or.inr (Or.inr (Or.inr c)))
        · exact Or.inr (Or.inl ⟨c.1, by omega⟩)))
