/-! ===== the class reads a law, a wall, a gust ===== -/
theorem QR_law {D : PF} {o v : Int} {I I' : PF} (h : QR D o I) (hD : GD D) (h6 : D 339 0 ≠ 6) (f : FR (fun x y => (x = o + 1 ∧ y = D 339 0) ∨ (x = o ∧ y = 5)) I I') (v1 : I' (o + 1) (D 339 0) = pad v) (v2 : I' o 5 = D 339 0 + 1) :
    QR (u2 (u2 D 340 (D 339 0) v) 339 0 (D 339 0 + 1)) o I' := by
  obtain ⟨⟨a1, a2, a3, a4, a5⟩, ⟨b1, b2, b3, b4⟩, c1, c2, c3, c4, c5, c6⟩ := h
  obtain ⟨-, ⟨r1, r2, r3, r4, r5, r6⟩⟩ := hD.r
  generalize hD' : u2 (u2 D 340 (D 339 0) v) 339 0 (D 339 0 + 1) = D'
  have e : ∀ x j, x ≠ 339 → x ≠ 340 → D' x j = D x j := fun x j h1 h2 => by rw [← hD', u2_o h1, u2_o h2]
  have e0 : D' 339 0 = D 339 0 + 1 := by rw [← hD', u2_at]
  have e3 : ∀ j, j ≠ 0 → D' 339 j = D 339 j := fun j h1 => by rw [← hD', u2_j h1, u2_o (by decide)]
  have e4 : ∀ j, j ≠ D 339 0 → D' 340 j = D 340 j := fun j h1 => by rw [← hD', u2_o (by decide), u2_j h1]
  have e5 : D' 340 (D 339 0) = v := by rw [← hD', u2_o (by decide), u2_at]
  have e31 := e3 1 (by decide)
  have e32 := e3 2 (by decide)
  have ew : ∀ x y, wlT D' x y ↔ wlT D x y := wlT_c e32 (fun j => e 344 j (by decide) (by decide))
  refine ⟨?_, ?_, fun k k0 k1 => ?_, fun k k0 k1 => ?_, fun j j0 j1 => ?_, fun x y x0 x1 y0 y1 => ?_, fun p p0 p1 => ?_, fun w hw => ?_⟩
  · simp only [e 341 _ (by decide) (by decide), f o 0 (by omega), f o 1 (by omega), f o 2 (by omega), f o 3 (by omega), f o 4 (by omega)]; exact ⟨a1, a2, a3, a4, a5⟩
  · rw [v2, e0, f o 6 (by omega), e32, f o 7 (by omega), e 306 48 (by decide) (by decide), f (o + 11) 3 (by omega), e31]; exact ⟨rfl, b2, b3, b4⟩
  · by_cases c : k = D 339 0
    · rw [c, v1, e5]
    · rw [f (o + 1) k (by omega), e4 k c]; exact c1 k k0 (by omega)
  · rw [f (o + 2) k (by omega), e4 (6 + k) (by omega)]; exact c2 k k0 (by omega)
  · rw [f (o + 3) j (by omega)]; exact c3 j j0 j1
  · rw [f (o + 3) _ (by omega), ew]; exact c4 x y x0 x1 y0 y1
  · have g : ∀ y, I' (o + 11 + 2 + p) y = I (o + 11 + 2 + p) y := fun y => f _ y (by omega)
    simp only [g, e 343 _ (by decide) (by decide), e 342 _ (by decide) (by decide)]; exact c5 p p0 (by omega)
  · have g : ∀ y, I' (o + 5 + 3 * w) y = I (o + 5 + 3 * w) y := fun y => f _ y (by omega)
    have g' : ∀ y, I' (o + 5 + 3 * w + 1) y = I (o + 5 + 3 * w + 1) y := fun y => f _ y (by omega)
    simp only [g, g', e 345 _ (by decide) (by decide), e 346 _ (by decide) (by decide), e 347 _ (by decide) (by decide)]; exact c6 w hw
theorem QR_wal {D : PF} {o x y : Int} {I I' : PF} (h : QR D o I) (hD : GD D) (h6 : D 339 2 ≠ 10) (hx : 0 ≤ x ∧ x < 9) (hy : 0 ≤ y ∧ y < 9) (f : FR (fun a b => (a = o + 3 ∧ b = 9 * y + x) ∨ (a = o ∧ b = 6)) I I') (v1 : I' (o + 3) (9 * y + x) = 1) (v2 : I' o 6 = D 339 2 + 1) :
    QR (u2 (u2 (u2 D 344 (2 * D 339 2) x) 344 (2 * D 339 2 + 1) y) 339 2 (D 339 2 + 1)) o I' := by
  obtain ⟨⟨a1, a2, a3, a4, a5⟩, ⟨b1, b2, b3, b4⟩, c1, c2, c3, c4, c5, c6⟩ := h
  obtain ⟨-, ⟨r1, r2, r3, r4, r5, r6⟩⟩ := hD.r
  generalize hD' : u2 (u2 (u2 D 344 (2 * D 339 2) x) 344 (2 * D 339 2 + 1) y) 339 2 (D 339 2 + 1) = D'
  have e : ∀ x j, x ≠ 339 → x ≠ 344 → D' x j = D x j := fun x j h1 h2 => by rw [← hD', u2_o h1, u2_o h2, u2_o h2]
  have e0 : D' 339 2 = D 339 2 + 1 := by rw [← hD', u2_at]
  have e3 : ∀ j, j ≠ 2 → D' 339 j = D 339 j := fun j h1 => by rw [← hD', u2_j h1, u2_o (by decide), u2_o (by decide)]
  have e4 : ∀ j, j < 2 * D 339 2 → D' 344 j = D 344 j := fun j h1 => by rw [← hD', u2_o (by decide), u2_j (by omega), u2_j (by omega)]
  have e5 : D' 344 (2 * D 339 2) = x := by rw [← hD', u2_o (by decide), u2_j (by omega), u2_at]
  have e6 : D' 344 (2 * D 339 2 + 1) = y := by rw [← hD', u2_o (by decide), u2_at]
  have e31 := e3 1 (by decide)
  have e30 := e3 0 (by decide)
  have ew : ∀ x' y', wlT D' x' y' ↔ wlT D x' y' ∨ (x' = x ∧ y' = y) := fun x' y' => by
    constructor
    · rintro ⟨k, k0, k1, k2, k3⟩
      by_cases c : k = D 339 2
      · rw [c, e5] at k2; rw [c, e6] at k3; exact Or.inr ⟨k2.symm, k3.symm⟩
      · rw [e4 _ (by omega)] at k2 k3; exact Or.inl ⟨k, k0, by omega, k2, k3⟩
    · rintro (⟨k, k0, k1, k2, k3⟩ | ⟨c1, c2⟩)
      · exact ⟨k, k0, by omega, by rw [e4 _ (by omega)]; exact k2, by rw [e4 _ (by omega)]; exact k3⟩
      · exact ⟨D 339 2, r5, by omega, by rw [e5, c1], by rw [e6, c2]⟩
  refine ⟨?_, ?_, fun k k0 k1 => ?_, fun k k0 k1 => ?_, fun j j0 j1 => ?_, fun x' y' x0 x1 y0 y1 => ?_, fun p p0 p1 => ?_, fun w hw => ?_⟩
  · simp only [e 341 _ (by decide) (by decide), f o 0 (by omega), f o 1 (by omega), f o 2 (by omega), f o 3 (by omega), f o 4 (by omega)]; exact ⟨a1, a2, a3, a4, a5⟩
  · rw [v2, e0, f o 5 (by omega), e30, f o 7 (by omega), e 306 48 (by decide) (by decide), f (o + 11) 3 (by omega), e31]; exact ⟨b1, rfl, b3, b4⟩
  · rw [f (o + 1) k (by omega), e 340 _ (by decide) (by decide)]; exact c1 k k0 (by omega)
  · rw [f (o + 2) k (by omega), e 340 _ (by decide) (by decide)]; exact c2 k k0 (by omega)
  · by_cases c : j = 9 * y + x
    · rw [c, v1]; exact Or.inr rfl
    · rw [f (o + 3) j (by omega)]; exact c3 j j0 j1
  · rw [ew]
    by_cases c : x' = x ∧ y' = y
    · rw [c.1, c.2, v1]; exact ⟨fun _ => Or.inr ⟨rfl, rfl⟩, fun _ => by decide⟩
    · rw [f (o + 3) _ (by omega), c4 x' y' x0 x1 y0 y1]
      exact ⟨Or.inl, fun d => d.elim id (fun d => absurd d c)⟩
  · have g : ∀ y, I' (o + 11 + 2 + p) y = I (o + 11 + 2 + p) y := fun y => f _ y (by omega)
    simp only [g, e 343 _ (by decide) (by decide), e 342 _ (by decide) (by decide)]; exact c5 p p0 (by omega)
  · have g : ∀ y, I' (o + 5 + 3 * w) y = I (o + 5 + 3 * w) y := fun y => f _ y (by omega)
    have g' : ∀ y, I' (o + 5 + 3 * w + 1) y = I (o + 5 + 3 * w + 1) y := fun y => f _ y (by omega)
    simp only [g, g', e 345 _ (by decide) (by decide), e 346 _ (by decide) (by decide), e 347 _ (by decide) (by decide)]; exact c6 w hw
theorem QR_gus {D : PF} {o v : Int} {I I' : PF} (h : QR D o I) (hD : GD D) (f : FR (fun a b => a = o ∧ b = 7) I I') (v1 : I' o 7 = v) : QR (u2 D 306 48 v) o I' := by
  obtain ⟨⟨a1, a2, a3, a4, a5⟩, ⟨b1, b2, b3, b4⟩, c1, c2, c3, c4, c5, c6⟩ := h
  obtain ⟨-, ⟨r1, r2, r3, r4, r5, r6⟩⟩ := hD.r
  generalize hD' : u2 D 306 48 v = D'
  have e : ∀ x j, x ≠ 306 → D' x j = D x j := fun x j h1 => by rw [← hD', u2_o h1]
  have e0 : D' 306 48 = v := by rw [← hD', u2_at]
  have ew : ∀ x y, wlT D' x y ↔ wlT D x y := wlT_c (e 339 2 (by decide)) (fun j => e 344 j (by decide))
  refine ⟨?_, ?_, fun k k0 k1 => ?_, fun k k0 k1 => ?_, fun j j0 j1 => ?_, fun x y x0 x1 y0 y1 => ?_, fun p p0 p1 => ?_, fun w hw => ?_⟩
  · simp only [e 341 _ (by decide), f o 0 (by omega), f o 1 (by omega), f o 2 (by omega), f o 3 (by omega), f o 4 (by omega)]; exact ⟨a1, a2, a3, a4, a5⟩
  · rw [v1, e0, f o 5 (by omega), f o 6 (by omega), f (o + 11) 3 (by omega), e 339 0 (by decide), e 339 2 (by decide), e 339 1 (by decide)]; exact ⟨b1, b2, rfl, b4⟩
  · rw [f (o + 1) k (by omega), e 340 _ (by decide)]; exact c1 k k0 (by rw [← e 339 0 (by decide)]; exact k1)
  · rw [f (o + 2) k (by omega), e 340 _ (by decide)]; exact c2 k k0 (by rw [← e 339 1 (by decide)]; exact k1)
  · rw [f (o + 3) j (by omega)]; exact c3 j j0 j1
  · rw [f (o + 3) _ (by omega), ew]; exact c4 x y x0 x1 y0 y1
  · rw [e 339 1 (by decide)] at p1
    have g : ∀ y, I' (o + 11 + 2 + p) y = I (o + 11 + 2 + p) y := fun y => f _ y (by omega)
    simp only [g, e 343 _ (by decide), e 342 _ (by decide)]; exact c5 p p0 p1
  · have g : ∀ y, I' (o + 5 + 3 * w) y = I (o + 5 + 3 * w) y := fun y => f _ y (by omega)
    have g' : ∀ y, I' (o + 5 + 3 * w + 1) y = I (o + 5 + 3 * w + 1) y := fun y => f _ y (by omega)
    simp only [g, g', e 345 _ (by decide), e 346 _ (by decide), e 347 _ (by decide)]; exact c6 w hw
/-- the square's cells, but for a start's wore -/
def qC (o x y : Int) : Prop := (o ≤ x ∧ x ≤ o + 10) ∨ (x = o + 11 ∧ y = 3) ∨ (o + 13 ≤ x ∧ x ≤ o + 18 ∧ 0 ≤ y ∧ y ≤ 6)
def dP (o x y : Int) : Prop := sF x y ∨ (x = 71 ∧ (y = 2 ∨ y = 3)) ∨ qC o x y
theorem sF_P {o : Int} {I J : PF} (h : FR sF I J) : FR (dP o) I J := h.mono (fun x y c => Or.inl c)
theorem qC_P {o : Int} {I : PF} {x y v : Int} (h : qC o x y) : FR (dP o) I (u2 I x y v) := FR_u2 (Or.inr (Or.inr h))
theorem DSt.u {t : Int → Int} {n : Int} {s : SA} {I R : PF} {x y v : Int} (h : DSt t n s I R) (h1 : x ≠ 67) (h2 : x ≠ 65) : DSt t n s (u2 I x y v) R := h.fr (u2_row (Ne.symm h1)) (u2_row (Ne.symm h2))
/-- behind the word that begins a statement -/
theorem c_readLaw {X : CX} {I R : PF} {t : Int → Int} {n o : Int} {q : Int × Bool} {D : PF} (hs : Shp R) (h : QG t n (.inl q) D o I R) (hb : behT t n q = (run isL t n (skp t n q.1), true)) :
    CN X 4 mX7_readLaw [(2, 110)] I R (fun v I' R' => QRes t n (lawS t n D (skp t n q.1) (goT t n (.inl q))) (lawD t n D (goT t n (.inl q))) o v.2 I' R' ∧ FR (dP o) I I' ∧ FR sR R R') := by
  refine callee_b (by decide +kernel) (Nat.le_of_ble_eq_true rfl) rfl ?_
  have h' := h
  obtain ⟨d1, r110, hk, hQ, hD⟩ := h'
  have ho := sq_o hk
  have e5 : I o 5 = D 339 0 := hQ.2.1.1
  have hr := hD.r.2
  refine S_X7_readLaw_0 (d1 := 2) r110 hk (by omega) (c_takeKind hs d1 (by omega) (by decide)) (fun z I1 R1 p => ?_)
  obtain ⟨p1, p2, p3⟩ := p
  have hs1 := hs.fr (sR_mR p3)
  unfold lawS
  rcases p1 with ⟨c1, (c2 : z = 1), c3⟩ | ⟨c1, (c2 : z = 0), c3⟩
  rotate_left
  · rw [cif_t (by omega)]
    refine S_X7_readLaw_13 (by omega) (fun g => absurd c2 g) (fun _ => ?_)
    exact S_X7_readLaw_16 ⟨⟨rfl, c3⟩, sF_P p2, p3⟩
  rw [cif_f (by omega)]
  rw [hb] at c3
  have G1 : QG t n (.inl (run isL t n (skp t n q.1), true)) D o I1 R1 := h.scan c3 p2 p3
  have eg : goT t n (.inl q) = .inl (run isL t n (skp t n q.1), true) := rfl
  rw [eg]
  refine S_X7_readLaw_13 (by omega) (fun _ => ?_) (fun g => by omega)
  refine S_X7_readLaw_18 (d1 := 3) (by omega) (c_takeNewName hs1 G1) (fun v I2 R2 p => ?_)
  obtain ⟨k1, k2, k3⟩ := p
  have hs2 := hs1.fr (sR_mR k3)
  cases hN : newS t n D (.inl (run isL t n (skp t n q.1), true)) with
  | inr f =>
    rw [hN] at k1
    obtain ⟨(m1 : v = _), m2⟩ := k1
    refine S_X7_readLaw_22 (by omega) (fun g => absurd m1 g) (fun _ => ?_)
    exact S_X7_readLaw_28 ⟨⟨rfl, m2⟩, (sF_P p2).tr (sF_P k2), p3.tr k3⟩
  | inl q' =>
    rw [hN] at k1
    obtain ⟨(m1 : v = _), m2, m3, G2⟩ := k1
    simp only at m2 m3
    have e5' : I2 o 5 = D 339 0 := G2.2.2.2.1.2.1.1
    obtain ⟨qq, eq1, -, -, w2⟩ := new_in hN
    cases eq1
    refine S_X7_readLaw_22 (by omega) (fun _ => ?_) (fun g => by omega)
    have e6 : (u2 I2 (o + 1) (I2 o 5) v) o 5 = D 339 0 := by rw [u2_o (by omega)]; exact e5'
    refine S_X7_readLaw_30 hs2 G2.2.1 hk (by omega) ⟨⟨rfl, ?_⟩, ?_, p3.tr k3⟩
    · rw [e6, e5', m1]
      refine ⟨(G2.1.u (by omega) (by omega)).u (by omega) (by omega), G2.2.1, hk, ?_, GD_law hD (by omega) w2⟩
      exact QR_law G2.2.2.2.1 hD (by omega) (FR.tr (FR_u2 (Or.inl ⟨rfl, rfl⟩)) (FR_u2 (Or.inr ⟨rfl, rfl⟩))) (by rw [u2_o (by omega), u2_at]; rfl) u2_at
    · exact ((sF_P p2).tr (sF_P k2)).tr (FR.tr (qC_P (by unfold qC; omega)) (qC_P (by unfold qC; omega)))
theorem c_readWall {X : CX} {I R : PF} {t : Int → Int} {n o : Int} {q : Int × Bool} {D : PF} (hs : Shp R) (h : QG t n (.inl q) D o I R) (hb : behT t n q = (run isL t n (skp t n q.1), true)) :
    CN X 4 mX7_readWall [(2, 110)] I R (fun v I' R' => QRes t n (walS t n D (skp t n q.1) (goT t n (.inl q))) (walD t n D (goT t n (.inl q))) o v.2 I' R' ∧ FR (dP o) I I' ∧ FR sR R R') := by
  refine callee_b (by decide +kernel) (Nat.le_of_ble_eq_true rfl) rfl ?_
  have h' := h
  obtain ⟨d1, r110, hk, hQ, hD⟩ := h'
  have ho := sq_o hk
  have e5 : I o 6 = D 339 2 := hQ.2.1.2.1
  have hr := hD.r
  refine S_X7_readWall_0 (d1 := 2) r110 hk (by omega) (c_takeKind hs d1 (by omega) (by decide)) (fun z I1 R1 p => ?_)
  obtain ⟨p1, p2, p3⟩ := p
  have hs1 := hs.fr (sR_mR p3)
  unfold walS
  rcases p1 with ⟨c1, (c2 : z = 1), c3⟩ | ⟨c1, (c2 : z = 0), c3⟩
  rotate_left
  · rw [cif_t (by omega)]
    refine S_X7_readWall_13 (by omega) (fun g => absurd c2 g) (fun _ => ?_)
    exact S_X7_readWall_16 ⟨⟨rfl, c3⟩, sF_P p2, p3⟩
  rw [cif_f (by omega)]
  rw [hb] at c3
  have G1 : QG t n (.inl (run isL t n (skp t n q.1), true)) D o I1 R1 := h.scan c3 p2 p3
  have eg : goT t n (.inl q) = .inl (run isL t n (skp t n q.1), true) := rfl
  rw [eg]
  refine S_X7_readWall_13 (by omega) (fun _ => ?_) (fun g => by omega)
  refine S_X7_readWall_18 (d1 := 3) (by omega) (c_takePlace (w := 1) hs1 G1 (Or.inr rfl)) (fun v I2 R2 p => ?_)
  obtain ⟨k1, k2, k3⟩ := p
  have hs2 := hs1.fr (sR_mR k3)
  have et : ((1 : Int) ≠ 0) = True := eq_true (by decide)
  rw [et] at k1
  cases hN : plaS t n D True (.inl (run isL t n (skp t n q.1), true)) with
  | inr f =>
    rw [hN] at k1
    obtain ⟨(m1 : v = _), m2⟩ := k1
    refine S_X7_readWall_23 (by omega) (fun g => absurd m1 g) (fun _ => ?_)
    exact S_X7_readWall_29 ⟨⟨rfl, m2⟩, (sF_P p2).tr (sF_P k2), p3.tr k3⟩
  | inl q' =>
    rw [hN] at k1
    obtain ⟨(m1 : v = _), G2⟩ := k1
    obtain ⟨w1, w2, w3, w4⟩ := pla_in hN
    have w3 : 0 ≤ valN t n (run isL t n (skp t n q.1), true) ∧ valN t n (run isL t n (skp t n q.1), true) < D 341 0 := w3
    have e5' : I2 o 6 = D 339 2 := G2.2.2.2.1.2.1.2.1
    have hn : ¬ psT D (vN t n (.inl (run isL t n (skp t n q.1), true))) (vN t n (plaX t n D (.inl (run isL t n (skp t n q.1), true)))) := fun c => w1 (Or.inr (Or.inl c))
    refine S_X7_readWall_23 (by omega) (fun _ => ?_) (fun g => by omega)
    have e6 : (u2 I2 (o + 3) v 1) o 6 = D 339 2 := by rw [u2_o (by omega)]; exact e5'
    refine S_X7_readWall_31 hs2 G2.2.1 hk (by omega) ⟨⟨rfl, ?_⟩, ?_, p3.tr k3⟩
    · rw [e6]
      refine ⟨(G2.1.u (by omega) (by omega)).u (by omega) (by omega), G2.2.1, hk, ?_, GD_wal hD (by omega) w3 w4 hn⟩
      exact QR_wal G2.2.2.2.1 hD (by omega) (by show 0 ≤ valN t n _ ∧ valN t n _ < 9; omega) (by omega) (FR.tr (FR_u2 (Or.inl ⟨rfl, m1⟩)) (FR_u2 (Or.inr ⟨rfl, rfl⟩))) (by rw [u2_o (by omega)]; rw [m1]; exact u2_at) u2_at
    · exact ((sF_P p2).tr (sF_P k2)).tr (FR.tr (qC_P (by unfold qC; omega)) (qC_P (by unfold qC; omega)))
theorem c_readGust {X : CX} {I R : PF} {t : Int → Int} {n o : Int} {q : Int × Bool} {D : PF} (hs : Shp R) (h : QG t n (.inl q) D o I R) (hw : tw t n (.inl q) = 111991167) :
    CN X 3 mX7_readGust [(2, 110)] I R (fun v I' R' => QRes t n (gusS t n (.inl q)) (gusD t n D (.inl q)) o v.2 I' R' ∧ FR (dP o) I I' ∧ FR sR R R') := by
  refine callee_b (by decide +kernel) (Nat.le_of_ble_eq_true rfl) rfl ?_
  have h' := h
  obtain ⟨d1, r110, hk, hQ, hD⟩ := h'
  have ho := sq_o hk
  have ea : askC t n 111991167 (.inl q) = .inl (run isL t n (skp t n q.1), true) := by unfold askC; rw [if_pos hw]; rfl
  unfold gusS gusD
  rw [ea]
  refine S_X7_readGust_0 (d1 := 1) hs (by omega) (c_advW hs d1 hw (by decide)) (fun z I1 R1 p => ?_)
  obtain ⟨p1, -, p2, p3⟩ := p
  have hs1 := hs.fr (sR_mR p3)
  have G1 : QG t n (.inl (run isL t n (skp t n q.1), true)) D o I1 R1 := h.scan p1 p2 p3
  refine S_X7_readGust_7 (d1 := 2) hs1 G1.2.1 (by omega) (c_takeNumber hs1 G1.1 (by decide) (by decide)) (fun v I2 R2 p => ?_)
  obtain ⟨k1, k2, k3⟩ := p
  have r2 : R2 110 2 = o := (k3 110 2 (fun c => by unfold sR at c; omega)).trans G1.2.1
  have fP : FR (dP o) I (u2 I2 o 7 v) := ((sF_P p2).tr (sF_P k2)).tr (qC_P (by unfold qC; omega))
  have ev : (u2 I2 o 7 v) o 7 = v := u2_at
  unfold NRes at k1
  cases hN : numS t n 0 100 (.inl (run isL t n (skp t n q.1), true)) with
  | inr f =>
    rw [hN] at k1
    obtain ⟨(m1 : v = _), m2⟩ := k1
    refine S_X7_readGust_21 hk r2 hk (by rw [ev, m1]; decide) (fun _ => ?_) (fun g => absurd (ev.trans m1) g)
    exact S_X7_readGust_39 (S_X7_readGust_40 (by decide) ⟨⟨rfl, m2.u (by omega) (by omega)⟩, fP, p3.tr k3⟩)
  | inl q' =>
    rw [hN] at k1
    obtain ⟨(m1 : v = _), m2, m3, -, m5⟩ := k1
    simp only at m2 m3
    have G2 := G1.scan m5 k2 k3
    refine S_X7_readGust_21 hk r2 hk (by rw [ev]; omega) (fun g => by omega) (fun _ => ?_)
    refine S_X7_readGust_35 (S_X7_readGust_40 (by decide) ⟨⟨rfl, m5.u (by omega) (by omega), r2, hk, ?_, ?_⟩, fP, p3.tr k3⟩)
    · exact QR_gus G2.2.2.2.1 hD (FR_u2 ⟨rfl, rfl⟩) (ev.trans m1)
    · refine GD_gus hD ?_
      show 0 ≤ valN t n _ ∧ valN t n _ ≤ 100
      omega
