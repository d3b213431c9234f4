/-! ===== the model reads numbers and names ===== -/
def dv (t : Int → Int) (a : Int) : Nat → Int
  | 0 => 0
  | k + 1 => 10 * dv t a k + t (a + k) - 48
abbrev isNb (t : Int → Int) (n : Int) (q : Int × Bool) : Prop := skp t n q.1 < n ∧ isD (t (skp t n q.1)) = true ∧ ¬ (q.2 = true ∧ skp t n q.1 = q.1)
def lenN (t : Int → Int) (n : Int) (q : Int × Bool) : Int := run isD t n (skp t n q.1) - skp t n q.1
def valN (t : Int → Int) (n : Int) (q : Int × Bool) : Int := dv t (skp t n q.1) (lenN t n q).toNat
def numS (t : Int → Int) (n lo hi : Int) : SA → SA
  | .inl q => if ¬ isNb t n q then .inr (1, skp t n q.1) else if 4 < lenN t n q then .inr (1, skp t n q.1 + 4) else if valN t n q < lo ∨ hi < valN t n q then .inr (2, skp t n q.1) else .inl (run isD t n (skp t n q.1), true)
  | .inr f => .inr f
theorem dv_r {t : Int → Int} {a : Int} : ∀ {k : Nat}, k ≤ 4 → (∀ i, 0 ≤ i → i < (k : Int) → 48 ≤ t (a + i) ∧ t (a + i) ≤ 57) → 0 ≤ dv t a k ∧ dv t a k < 10 ^ k
  | 0, _, _ => by simp [dv]
  | k + 1, h, g => by
    have ih := dv_r (t := t) (a := a) (k := k) (by omega) (fun i i0 i1 => g i i0 (by omega))
    have := g k (by omega) (by omega)
    unfold dv
    rw [Int.pow_succ]
    omega
theorem dv_4 {t : Int → Int} {a : Int} {k : Nat} (h : k ≤ 4) (g : ∀ i, 0 ≤ i → i < (k : Int) → 48 ≤ t (a + i) ∧ t (a + i) ≤ 57) : 0 ≤ dv t a k ∧ dv t a k ≤ 9999 := by
  have hv := dv_r h g
  have : k = 0 ∨ k = 1 ∨ k = 2 ∨ k = 3 ∨ k = 4 := by omega
  rcases this with rfl | rfl | rfl | rfl | rfl <;> (exact ⟨hv.1, Int.le_of_lt_add_one (Int.lt_of_lt_of_le hv.2 (by decide))⟩)
theorem number_loop {X : CX} {d : Nat} {R : PF} {Q : PV → PF → PF → Prop} {x1 x2 a n : Int} {t : Int → Int} (hs : Shp R) (hd : 2 ≤ d) (ha : 0 ≤ a) : ∀ (k j : Nat) (I : PF), 5 - j < k → j ≤ 4 → I 307 = t → I 306 3 = n → n ≤ 1600 → a + j ≤ n → (∀ i, 0 ≤ i → i < 1600 → 0 ≤ t i ∧ t i ≤ 255) → I 306 2 = a + j → (∀ i, 0 ≤ i → i < (j : Int) → isD (t (a + i)) = true) →
    (∀ I', run isD t n (a + j) - a ≤ 4 → FR (fun x y => x = 306 ∧ y = 2) I I' → I' 306 2 = run isD t n (a + j) → PN X d mX11_number 129 [(2, 306), (0, x1), (0, x2), (0, a), (0, dv t a (run isD t n (a + j) - a).toNat)] [] I' R Q) →
    (∀ I', 4 < run isD t n (a + j) - a → FR (fun x y => x = 306 ∧ y = 2) I I' → I' 306 2 = a + 4 → PN X d mX11_number 85 [(2, 306)] [] I' R Q) →
    PN X d mX11_number 49 [(2, 306), (0, x1), (0, x2), (0, a), (0, dv t a j)] [] I R Q := by
  intro k
  induction k with
  | zero => intro j I h; exact absurd h (Nat.not_lt_zero _)
  | succ k ih =>
    intro j I h hj h1 h2 hn haj h5 h6 hall h7 h8
    refine S_X11_number_49 (by omega) (by omega) (fun g => ?_) (fun g => ?_)
    · have e : run isD t n (a + j) = a + j := run_n (by omega)
      rw [e] at h7
      have := h7 I (by omega) FR.rf h6
      rw [show (a + (j : Int) - a).toNat = j by omega] at this
      exact this
    · have r := h5 (a + j) (by omega) (by omega)
      have e7 : I 307 (I 306 2) = t (a + j) := by rw [h1, h6]
      refine S_X11_number_60 (d1 := 1) hs (by omega) (by omega) (c_isDigit (by omega)) (fun z I2 R2 q => ?_)
      obtain ⟨(hz : z = _), rfl, rfl⟩ := q
      have hb := bi_r (48 ≤ I2 307 (I2 306 2) ∧ I2 307 (I2 306 2) ≤ 57)
      refine S_X11_number_72 (by omega) (fun g2 => ?_) (fun g2 => ?_)
      · have c := bi_0 (hz.symm.trans g2)
        have e : run isD t n (a + j) = a + j := run_n (fun k => c (by rw [e7]; exact isD_iff.mp k.2))
        rw [e] at h7
        have := h7 I2 (by omega) FR.rf h6
        rw [show (a + (j : Int) - a).toNat = j by omega] at this
        exact this
      · have c := bi_1 (fun c => g2 (hz.trans c))
        rw [e7] at c
        have e : run isD t n (a + j) = run isD t n (a + ((j + 1 : Nat) : Int)) := by rw [run_y (by omega) (isD_iff.mpr c)]; congr 1; omega
        refine S_X11_number_75 (by omega) (fun g3 => ?_) (fun g3 => ?_)
        · refine S_X11_number_96 hs (by omega) ?_
          have e9 : (10 * dv t a j + I2 307 (I2 306 2)) - 48 = dv t a (j + 1) := by rw [e7]; rfl
          rw [e9]
          refine ih (j + 1) _ (by omega) (by omega) (by rw [u2_row (by decide)]; exact h1) (by rw [u2_j (by decide)]; exact h2) hn (by omega) h5 (by rw [u2_at, h6]; omega) (fun i i0 i1 => ?_) (fun I' x y z => ?_) (fun I' x y z => ?_)
          · by_cases hi : i < j
            · exact hall i i0 hi
            · rw [show i = j by omega]; exact isD_iff.mpr c
          · rw [← e] at x z ⊢; exact h7 I' x ((FR_u2 (by decide)).tr y) z
          · rw [← e] at x; exact h8 I' x ((FR_u2 (by decide)).tr y) z
        · have r9 := run_ge isD t n (a + ((j + 1 : Nat) : Int))
          exact h8 I2 (by rw [e]; omega) FR.rf (by omega)
theorem c_number {X : CX} {I R : PF} {t : Int → Int} {n lo hi : Int} {s : SA} (hs : Shp R) (hM : MSt t n s I) (hlo : inR lo) (hhi : inR hi) :
    CN X 2 mX11_number [(2, 306), (0, lo), (0, hi)] I R (fun v I' R' => 0 ≤ v.2 ∧ v.2 ≤ 9999 ∧ MSt t n (numS t n lo hi s) I' ∧ FR mRd I I' ∧ R' = R ∧ (∀ q q', s = .inl q → numS t n lo hi s = .inl q' → v.2 = valN t n q ∧ lo ≤ v.2 ∧ v.2 ≤ hi ∧ I' 306 10 = skp t n q.1)) := by
  refine callee_b (by decide +kernel) (Nat.le_of_ble_eq_true rfl) rfl ?_
  refine S_X11_number_0 hM.r5 (fun g => ?_) (fun g => ?_)
  rotate_left
  · cases s with
    | inl q => exact absurd hM.ok g
    | inr f => exact S_X11_number_7 ⟨by decide, by decide, hM, FR.rf, rfl, fun q q' h => by cases h⟩
  cases s with
  | inr f => exact absurd g hM.bad
  | inl q =>
  refine S_X11_number_9 (d1 := 1) (by omega) (c_look2 hs hM) (fun z I2 R2 qq => ?_)
  obtain ⟨(q1 : z = _), q2, q3, q4, rfl⟩ := qq
  have h0 : 0 ≤ skp t n q.1 := by have := skp_ge t n q.1; have := hM.2.2.1; omega
  have hr : -1 ≤ nxt t n (.inl q) ∧ nxt t n (.inl q) ≤ 255 := lkv_r hM.1 h0
  have hq1 : nxt t n (.inl q) = lkv t n (skp t n q.1) := rfl
  have bad1 : ¬ isNb t n q → PN X 2 mX11_number 30 [(2, 306)] [] I2 R2 (fun v I' R' => 0 ≤ v.2 ∧ v.2 ≤ 9999 ∧ MSt t n (numS t n lo hi (.inl q)) I' ∧ FR mRd I I' ∧ R' = R2 ∧ (∀ q2 q', Sum.inl (β := Int × Int) q = .inl q2 → numS t n lo hi (.inl q) = .inl q' → v.2 = valN t n q2 ∧ lo ≤ v.2 ∧ v.2 ≤ hi ∧ I' 306 10 = skp t n q2.1)) := fun hn => by
    refine S_X11_number_30 (d1 := 1) (by omega) (c_fail q2.r5) (fun z3 I3 R3 q5 => ?_)
    obtain ⟨q6, rfl⟩ := q5
    rw [if_pos q2.ok] at q6
    subst q6
    have e : numS t n lo hi (.inl q) = .inr (1, skp t n q.1) := by show (if _ then _ else _) = _; rw [if_pos hn]
    refine S_X11_number_39 ⟨by decide, by decide, ?_, ?_, rfl, fun a b _ h => ?_⟩
    · rw [e]; exact q2.fail q3 (by decide) (by decide)
    · exact q4.tr ((FR_u2 ⟨rfl, by decide⟩).tr (FR_u2 ⟨rfl, by decide⟩))
    · rw [e] at h; cases h
  refine S_X11_number_13 (d1 := 1) (by omega) (c_isDigit (by omega)) (fun z3 I3 R3 q5 => ?_)
  obtain ⟨(hz : z3 = _), rfl, rfl⟩ := q5
  have hb := bi_r (48 ≤ z ∧ z ≤ 57)
  refine S_X11_number_16 (by omega) (fun g2 => ?_) (fun g2 => ?_)
  · have c := bi_0 (hz.symm.trans g2)
    refine bad1 (fun k => c ?_)
    rw [q1, hq1]; unfold lkv; rw [if_pos k.1]; exact isD_iff.mp k.2.1
  have c := bi_1 (fun c => g2 (hz.trans c))
  have hn : skp t n q.1 < n := lkv_n (c := z) (q1.symm) (by omega)
  have hd : isD (t (skp t n q.1)) = true := by rw [q1, hq1] at c; unfold lkv at c; rw [if_pos hn] at c; exact isD_iff.mpr c
  have q2' := q2
  obtain ⟨hp, m1, m2, m3, m4, m5, m6⟩ := q2'
  have e4 := q2.e4 q3
  have hp' := hp
  obtain ⟨p1, p2, p3, p4, p5, p6, p7, p8, p9⟩ := hp'
  refine S_X11_number_19 (by omega) (by omega) (fun g3 => ?_) (fun g3 => ?_)
  rotate_left
  · refine bad1 (fun k => ?_)
    cases hq : q.2 with
    | true => rw [m5 hq] at g3; exact k.2.2 ⟨hq, by omega⟩
    | false => have := m6 hq; have := skp_ge t n q.1; omega
  have hN : isNb t n q := ⟨hn, hd, fun k => g3 (by rw [m5 k.1, q3]; exact k.2)⟩
  refine S_X11_number_41 ?_
  rw [q3]
  have rl := run_le (f := isD) (t := t) (n := n) (p := skp t n q.1) (by omega)
  have rg := run_ge isD t n (skp t n q.1)
  have h00 : skp t n q.1 + ((0 : Nat) : Int) = skp t n q.1 := by omega
  refine number_loop (t := t) (n := n) hs (by omega) h0 6 0 I3 (by omega) (by omega) p1 p2 (by omega) (by omega) p5 (by omega) (fun i i0 i1 => by omega) (fun I' x y w => ?_) (fun I' x y w => ?_)
  · rw [h00] at x w ⊢
    have hall : ∀ i, 0 ≤ i → i < (((run isD t n (skp t n q.1) - skp t n q.1).toNat : Nat) : Int) → 48 ≤ t (skp t n q.1 + i) ∧ t (skp t n q.1 + i) ≤ 57 := fun i i0 i1 => isD_iff.mp (run_in (p := skp t n q.1) (n := n) (f := isD) (by omega) (by omega)).2
    have hv := dv_4 (t := t) (a := skp t n q.1) (k := (run isD t n (skp t n q.1) - skp t n q.1).toNat) (by omega) hall
    have eI : ∀ y, y ≠ 2 → I' 306 y = I3 306 y := fun y' hy => y 306 y' (fun k => hy k.2)
    refine S_X11_number_129 (d1 := 1) (by omega) hlo hhi (by omega) (c_isIn (by omega) hlo hhi) (fun z5 I5 R5 q5 => ?_)
    obtain ⟨(hz5 : z5 = _), rfl, rfl⟩ := q5
    have hb5 := bi_r (lo ≤ dv t (skp t n q.1) (run isD t n (skp t n q.1) - skp t n q.1).toNat ∧ dv t (skp t n q.1) (run isD t n (skp t n q.1) - skp t n q.1).toNat ≤ hi)
    have hfr : FR mRd I (u2 (u2 I' 306 4 (I' 306 2)) 306 10 (skp t n q.1)) := q4.tr ((y.mono (fun a b c => ⟨c.1, Or.inl c.2⟩)).tr ((FR_u2 ⟨rfl, by decide⟩).tr (FR_u2 ⟨rfl, by decide⟩)))
    have hPT : PT t n (u2 (u2 I' 306 4 (I' 306 2)) 306 10 (skp t n q.1)) := by
      refine ⟨?_, ?_, p3, p4, p5, ?_, ?_, ?_, ?_⟩
      · rw [u2_row (by decide), u2_row (by decide)]
        funext i
        rw [y 307 i (fun k => absurd k.1 (by decide)), p1]
      · rw [u2_j (by decide), u2_j (by decide), eI 3 (by decide)]; exact p2
      · rw [u2_j (by decide), u2_j (by decide), w]; omega
      · rw [u2_j (by decide), u2_j (by decide), w]; omega
      · rw [u2_j (by decide), u2_at, w]; omega
      · rw [u2_j (by decide), u2_j (by decide), eI 5 (by decide), u2_j (by decide), u2_j (by decide), eI 6 (by decide)]; exact p9
    refine S_X11_number_152 (by omega) (fun g5 => ?_) (fun g5 => ?_)
    · have c5 := bi_1 (fun c => g5 (hz5.trans c))
      have e : numS t n lo hi (.inl q) = .inl (run isD t n (skp t n q.1), true) := by
        show (if _ then _ else _) = _
        rw [if_neg (fun k => k hN), if_neg (by unfold lenN; omega), if_neg (by unfold valN lenN; omega)]
      refine S_X11_number_161 ⟨hv.1, hv.2, ?_, hfr, rfl, fun a b h1 h2 => ?_⟩
      · rw [e]
        refine ⟨hPT, ?_, ?_, ?_, ?_, ?_, ?_⟩
        · rw [u2_j (by decide), u2_j (by decide), eI 5 (by decide)]; exact m1
        · show 0 ≤ run isD t n (skp t n q.1); omega
        · rw [u2_j (by decide), u2_j (by decide), w]; exact Int.le_refl _
        · rw [u2_j (by decide), u2_j (by decide), w]
        · intro _; rw [u2_j (by decide), u2_at, w]
        · intro k; cases k
      · cases h1
        exact ⟨rfl, c5.1, c5.2, u2_at⟩
    · have c5 := bi_0 (hz5.symm.trans g5)
      have e : numS t n lo hi (.inl q) = .inr (2, skp t n q.1) := by
        show (if _ then _ else _) = _
        rw [if_neg (fun k => k hN), if_neg (by unfold lenN; omega), if_pos (by unfold valN lenN; omega)]
      have e5 : (u2 (u2 I' 306 4 (I' 306 2)) 306 10 (skp t n q.1)) 306 5 = 0 := by rw [u2_j (by decide), u2_j (by decide), eI 5 (by decide)]; exact m1
      refine S_X11_number_155 (d1 := 1) (by omega) (c_fail (by rw [e5]; decide)) (fun z6 I6 R6 q6 => ?_)
      obtain ⟨q7, rfl⟩ := q6
      rw [if_pos e5] at q7
      subst q7
      refine S_X11_number_161 ⟨hv.1, hv.2, ?_, hfr.tr ((FR_u2 ⟨rfl, by decide⟩).tr (FR_u2 ⟨rfl, by decide⟩)), rfl, fun a b h1 h2 => by rw [e] at h2; cases h2⟩
      rw [e]
      obtain ⟨x1, x2, x3, x4, x5, x6, x7, x8, x9⟩ := hPT
      refine ⟨⟨by rw [u2_row (by decide), u2_row (by decide)]; exact x1, by rw [u2_j (by decide), u2_j (by decide)]; exact x2, x3, x4, x5, by rw [u2_j (by decide), u2_j (by decide)]; exact x6, by rw [u2_j (by decide), u2_j (by decide)]; exact x7, by rw [u2_j (by decide), u2_j (by decide)]; exact x8, by rw [u2_j (by decide), u2_at]; exact ⟨by decide, fun c => absurd c (by decide)⟩⟩, by rw [u2_j (by decide), u2_at], (by decide : (2 : Int) ≠ 0), by rw [u2_at]⟩
  · rw [h00] at x
    have eI : ∀ y, y ≠ 2 → I' 306 y = I3 306 y := fun y' hy => y 306 y' (fun k => hy k.2)
    have e5 : I' 306 5 = 0 := by rw [eI 5 (by decide)]; exact m1
    refine S_X11_number_85 (d1 := 1) (by omega) (c_fail (by rw [e5]; decide)) (fun z6 I6 R6 q6 => ?_)
    obtain ⟨q7, rfl⟩ := q6
    rw [if_pos e5] at q7
    subst q7
    have e : numS t n lo hi (.inl q) = .inr (1, skp t n q.1 + 4) := by
      show (if _ then _ else _) = _
      rw [if_neg (fun k => k hN), if_pos (by unfold lenN; omega)]
    refine S_X11_number_94 ⟨by decide, by decide, ?_, q4.tr ((y.mono (fun a b c => ⟨c.1, Or.inl c.2⟩)).tr ((FR_u2 ⟨rfl, by decide⟩).tr (FR_u2 ⟨rfl, by decide⟩))), rfl, fun a b h1 h2 => by rw [e] at h2; cases h2⟩
    rw [e]
    refine ⟨⟨?_, ?_, p3, p4, p5, ?_, ?_, ?_, ?_⟩, ?_, (by decide : (1 : Int) ≠ 0), ?_⟩
    · rw [u2_row (by decide), u2_row (by decide)]
      funext i
      rw [y 307 i (fun k => absurd k.1 (by decide)), p1]
    · rw [u2_j (by decide), u2_j (by decide), eI 3 (by decide)]; exact p2
    · rw [u2_j (by decide), u2_j (by decide), w]; omega
    · rw [u2_j (by decide), u2_j (by decide), w]; omega
    · rw [u2_j (by decide), u2_j (by decide), eI 4 (by decide)]; exact p8
    · rw [u2_j (by decide), u2_at]; exact ⟨by decide, fun c => absurd c (by decide)⟩
    · rw [u2_j (by decide), u2_at]
    · rw [u2_at, w]
