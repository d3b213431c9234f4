/-! ===== calls that change the tape, the seed or nothing ===== -/
def smC (x y : Int) : Prop := x = 65 ∨ x = 307 ∨ (x = 64 ∧ y ≠ 17) ∨ (x = 306 ∧ (y = 1 ∨ y = 7 ∨ y = 8 ∨ y = 78 ∨ y = 114)) ∨ x = 66 ∨ x = 308 ∨ x = 303 ∨ x = 305 ∨ x = 382
def scA (p o x y : Int) : Prop := scC p o x y ∨ scM x y ∨ smC x y
theorem Tld.sm {D : PF} {p o : Int} {I I' : PF} (h : Tld D p I) (hp : p = 72 ∧ o = 91 ∨ p = 91 ∧ o = 72) (f : FR (scA p o) I I') : Tld D p I' := by
  obtain ⟨h1, h2, h3, h4, h5, h6, h7, h8, h9⟩ := h
  have hD := h1.2.1
  have e : ∀ x y, ¬ scA p o x y → I' x y = I x y := f
  have e8 : ∀ y, I' 348 y = I 348 y := fun y => e _ _ (fun c => by unfold scA scC scM smC at c; omega)
  have e2 : ∀ y, 24 ≤ y → I' 342 y = I 342 y := fun y hy => e _ _ (fun c => by unfold scA scC scM smC at c; omega)
  refine ⟨h1, h2, h3.f2 (fun x x0 x1 x2 x3 => funext fun y => e x y (fun c => by unfold scA scC scM smC at c; omega)) h1, fun k k0 k1 => ?_, h5.cg h1 (fun y c => e _ _ (fun d => by unfold scA scC scM smC at d; omega)) (fun y c => e _ _ (fun d => by unfold scA scC scM smC at d; omega)) (fun y c => e _ _ (fun d => by unfold scA scC scM smC at d; omega)) (fun y c => e _ _ (fun d => by unfold scA scC scM smC at d; omega)) e2 (fun y c => e _ _ (fun d => by unfold scA scC scM smC at d; omega)) (fun x y c c2 => e _ _ (fun d => by unfold scA scC scM smC at d; omega)) (fun y c => e _ _ (fun d => by unfold scA scC scM smC at d; omega)), h6.cg ⟨by omega, by omega⟩ (fun y _ _ => e8 y) e2, (h7.cg ⟨by omega, by omega⟩ (fun y _ _ => e8 y) e2).fr ⟨by omega, by omega⟩ (fun x y c => e x y (fun d => by unfold stC at c; unfold scA scC scM smC at d; omega)), h8.cg ⟨by omega, by omega⟩ (fun y _ _ => e8 y) e2 (fun y => e _ _ (fun d => by unfold scA scC scM smC at d; omega)) (fun x y x0 x1 => e _ _ (fun d => by unfold scA scC scM smC at d; omega)) (e _ _ (fun d => by unfold scA scC scM smC at d; omega)) (e _ _ (fun d => by unfold scA scC scM smC at d; omega)), h9.cg (e _ _ (fun d => by unfold scA scC scM smC at d; omega)) (e _ _ (fun d => by unfold scA scC scM smC at d; omega)) (fun y => e _ _ (fun d => by unfold scA scC scM smC at d; omega)) (fun y => e _ _ (fun d => by unfold scA scC scM smC at d; omega))⟩
  rw [e _ _ (fun c => by unfold scA scC scM smC at c; omega)]; exact h4 k k0 k1
theorem Non.sm {p o : Int} {I I' : PF} (h : Non p I) (hp : p = 72 ∧ o = 91 ∨ p = 91 ∧ o = 72) (f : FR (scA p o) I I') : Non p I' := by
  have e : ∀ x y, ¬ scA p o x y → I' x y = I x y := f
  unfold Non at h ⊢
  have n : ∀ x y, (x = p ∨ (x = 306 ∧ (y = 55 ∨ y = 73 ∨ y = 76)) ∨ (x = 341 ∧ 5 ≤ y) ∨ (x = 339 ∧ 3 ≤ y) ∨ x = 111 ∨ x = 348 ∨ x = 136 ∨ (x = 64 ∧ y = 17)) → I' x y = I x y := fun x y c => e x y (fun d => by unfold scA scC scM smC at d; omega)
  rw [n p 0 (by omega), n p 1 (by omega), n p 5 (by omega), n p 6 (by omega), n 306 55 (by omega), n 306 73 (by omega), n 306 76 (by omega), n 341 5 (by omega), n 341 6 (by omega), n 339 3 (by omega), n 339 4 (by omega), n 339 5 (by omega), n 111 0 (by omega), n 111 1 (by omega), n 111 2 (by omega), n 111 3 (by omega), n 348 0 (by omega), n 348 1 (by omega), n 348 2 (by omega), n 348 33 (by omega), n 136 1 (by omega), n 136 5 (by omega), n 64 17 (by omega)]
  exact h
theorem Sim.up {I I' R R' : PF} {p o : Int} (h : Sim I R) (hp : Plc R p o) (f : FR (scA p o) I I') (fR : FR scR R R') (hT : Tap I') (hS : Sml I') : Sim I' R' := by
  obtain ⟨h1, h2, h3, h4, p', o', h6, h7⟩ := h
  obtain ⟨e1, e2, e3⟩ := hp
  obtain ⟨e4, e5, e6⟩ := id h6
  obtain rfl : p' = p := e4.symm.trans e1
  obtain rfl : o' = o := e5.symm.trans e2
  refine ⟨h1.fr (scR_mR fR), ⟨h2.1.rows (fun a ha => funext fun y => f a y (fun c => by unfold scA scC scM smC at c; omega)), fun x hx => by rw [f x 7 (fun c => by unfold scA scC scM smC at c; omega)]; exact h2.2 x hx⟩, hT, hS, p', o', h6.sc fR, ?_⟩
  rcases h7 with h7 | ⟨D, h7⟩
  · exact Or.inl (h7.sm e3 f)
  · exact Or.inr ⟨D, h7.sm e3 f⟩
theorem Sim.plc {I R : PF} (h : Sim I R) : ∃ p o, Plc R p o := by
  obtain ⟨-, -, -, -, p, o, h, -⟩ := h
  exact ⟨p, o, h⟩
/-- the two calls, one after the other -/
def Both (X : CX) (dx dm : Nat) (mx mm : MD) (A : List PV) (I R : PF) : Prop := CN X dx mx ((2, 64) :: A) I R (fun v I1 R1 => CN X dm mm ((2, 306) :: A) I1 R1 (fun v' I2 R2 => v'.2 = v.2 ∧ Sim I2 R2))
def rfI (I : PF) (k : Int) : PF := u2 (u2 I 66 k (I 66 k + 1)) 308 k (u2 I 66 k (I 66 k + 1) 308 k + 1)
theorem rfI_fr (I : PF) (k : Int) : FR (fun x y => (x = 66 ∨ x = 308) ∧ y = k) I (rfI I k) := (FR_u2 ⟨Or.inl rfl, rfl⟩).tr (FR_u2 ⟨Or.inr rfl, rfl⟩)
theorem Sml.cg {I I' : PF} (h : Sml I) (f : FR (fun x y => x = 66 ∨ x = 308 ∨ x = 65 ∨ x = 307 ∨ (x = 64 ∧ (y = 1 ∨ y = 17)) ∨ (x = 306 ∧ (y = 1 ∨ y = 73)) ∨ x = 304 ∨ x = 353) I I') (hj : ∀ j, I' 66 j = I' 308 j) : Sml I' := by
  obtain ⟨a1, a2, a3, a4, a5, a6, a7⟩ := h
  refine ⟨hj, ?_, ?_, ?_, ?_, ?_, ?_⟩
  · rw [f 64 3 (fun c => by omega), f 64 4 (fun c => by omega), f 306 7 (fun c => by omega), f 306 8 (fun c => by omega)]; exact a2
  · rw [f 303 0 (fun c => by omega), f 306 78 (fun c => by omega)]; exact a3
  · rw [f 64 19 (fun c => by omega), f 306 114 (fun c => by omega)]
    refine ⟨a4.1, a4.2.1, a4.2.2.1, fun k k0 k1 => ?_⟩
    rw [f 305 k (fun c => by omega), f 382 k (fun c => by omega)]; exact a4.2.2.2 k k0 k1
  · rw [f 306 72 (fun c => by omega)]; exact a5
  · rw [f 131 5 (fun c => by omega)]; exact a6
  · rw [f 136 4 (fun c => by omega), f 306 77 (fun c => by omega)]; exact a7
theorem rfI_j {I : PF} {k : Int} (h : ∀ j, I 66 j = I 308 j) : ∀ j, rfI I k 66 j = rfI I k 308 j := fun j => by
  unfold rfI
  rw [u2_o (by decide)]
  by_cases c : j = k
  · rw [c, u2_at, u2_at, u2_o (by decide), h]
  · rw [u2_j c, u2_j c, u2_o (by decide), h]
theorem Tap.cg {I I' : PF} (h : Tap I) (f : ∀ x y, (x = 65 ∨ x = 307 ∨ (x = 64 ∧ y = 1) ∨ (x = 306 ∧ y = 1)) → I' x y = I x y) : Tap I' := by
  obtain ⟨a1, a2, a3, a4, a5⟩ := h
  have e7 : I' 307 = I 307 := funext fun y => f _ _ (by omega)
  have e65 : I' 65 = I 65 := funext fun y => f _ _ (by omega)
  have e1 : I' 306 1 = I 306 1 := f _ _ (by omega)
  exact ⟨by rw [e65, e7]; exact a1, by rw [e1, f 64 1 (by omega)]; exact a2, by rw [e1]; exact a3, by rw [e1]; exact a4, by rw [e7]; exact a5⟩
/-- both refuse -/
theorem Sim.rf {I R : PF} (h : Sim I R) (k : Int) : Sim (rfI I k) R := by
  obtain ⟨p, o, hp⟩ := h.plc
  have f := rfI_fr I k
  refine h.up hp (f.mono (fun x y c => by unfold scA smC; omega)) FR.rf (h.2.2.1.cg (fun x y c => f x y (fun d => by omega))) (h.2.2.2.1.cg (f.mono (fun x y c => by omega)) (rfI_j h.2.2.2.1.1))
def tkI (I : PF) : PF := u2 (u2 I 64 1 0) 306 1 0
theorem tkI_fr (I : PF) : FR (fun x y => (x = 64 ∨ x = 306) ∧ y = 1) I (tkI I) := (FR_u2 ⟨Or.inl rfl, rfl⟩).tr (FR_u2 ⟨Or.inr rfl, rfl⟩)
/-- both take the tape -/
theorem Sim.tk {I R : PF} (h : Sim I R) : Sim (tkI I) R := by
  obtain ⟨p, o, hp⟩ := h.plc
  have f := tkI_fr I
  obtain ⟨a1, a2, a3, a4, a5⟩ := h.2.2.1
  have e7 : tkI I 307 = I 307 := funext fun y => f _ _ (fun d => by omega)
  have e65 : tkI I 65 = I 65 := funext fun y => f _ _ (fun d => by omega)
  have e1 : tkI I 306 1 = 0 := u2_at
  have e2 : tkI I 64 1 = 0 := by unfold tkI; rw [u2_o (by decide), u2_at]
  refine h.up hp (f.mono (fun x y c => by unfold scA smC; omega)) FR.rf ⟨by rw [e65, e7]; exact a1, by rw [e1, e2], by rw [e1]; decide, by rw [e1]; decide, by rw [e7]; exact a5⟩ (h.2.2.2.1.cg (f.mono (fun x y c => by omega)) (fun j => ?_))
  rw [f 66 j (fun d => by omega), f 308 j (fun d => by omega)]; exact h.2.2.2.1.1 j
/-! feed -/
def sel5 (a b c d e q : Int) : Int := if q = 0 then a else if q = 1 then b else if q = 2 then c else if q = 3 then d else e
def fdK (A : Int → Int) (t : Int → Int) (n m : Int) : Int → Int := fun i => if n ≤ i ∧ i < n + m then byt (A ((i - n) / 4)) ((i - n) % 4) else t i
theorem pn_loop {X : CX} {R : PF} {Q : PV → PF → PF → Prop} {I0 : PF} {n x : Int} (hs : Shp R) (hx : inR x) (hn : 0 ≤ n ∧ n + 4 ≤ 1600) (hQ : ∀ I', I' 64 1 = n + 4 → (∀ i, I' 65 i = if n ≤ i ∧ i < n + 4 then byt x (i - n) else I0 65 i) → FR (fun a b => a = 65 ∨ (a = 64 ∧ b = 1)) I0 I' → Q (9, 0) I' R) :
    ∀ (m : Nat) (j : Int) (I : PF), (4 - j).toNat < m → 0 ≤ j → j ≤ 4 → I 64 1 = n + j → (∀ i, I 65 i = if n ≤ i ∧ i < n + j then byt x (i - n) else I0 65 i) → FR (fun a b => a = 65 ∨ (a = 64 ∧ b = 1)) I0 I → PN X 0 mX10_putNumber 3 [(2, 64), (0, x), (0, 24 - 8 * j)] [] I R Q := by
  intro m
  induction m with
  | zero => intro j I h; exact absurd h (Nat.not_lt_zero _)
  | succ m ih =>
    intro j I hm j0 j1 h1 h65 hf
    refine S_X10_putNumber_3 (by omega) (fun g => ?_) (fun g => ?_)
    · obtain rfl : j = 4 := by omega
      exact S_X10_putNumber_49 (hQ I h1 h65 hf)
    refine S_X10_putNumber_7 (by omega) (fun g2 => by omega) (fun _ => ?_)
    refine S_X10_putNumber_17 hs (by omega) ?_
    rw [and255, ushr_m hx _ (by omega), h1, u2_o (by decide), h1]
    have g1 : FR (fun a b => a = 65 ∨ (a = 64 ∧ b = 1)) I (u2 (u2 I 65 (n + j) (x / 2 ^ (24 - 8 * j).toNat % 256)) 64 1 (n + j + 1)) := (FR_u2 (Or.inl rfl)).tr (FR_u2 (Or.inr ⟨rfl, rfl⟩))
    refine S_X10_putNumber_43 ?_
    rw [show 24 - 8 * j + -8 = 24 - 8 * (j + 1) by omega]
    refine ih (j + 1) _ (by omega) (by omega) (by omega) (by rw [u2_at]; omega) (fun i => ?_) (hf.tr g1)
    rw [u2_o (by decide)]
    by_cases c : i = n + j
    · rw [c, u2_at, if_pos (by omega), show n + j - n = j by omega]
      unfold byt
      rw [show 8 * (3 - j) = 24 - 8 * j by omega]
    · rw [u2_j c, h65]
      by_cases c2 : n ≤ i ∧ i < n + j
      · rw [if_pos c2, if_pos (by omega)]
      · rw [if_neg c2, if_neg (by omega)]
theorem c_putNumber {X : CX} {I R : PF} {n x : Int} (hs : Shp R) (hx : inR x) (hn : 0 ≤ n ∧ n + 4 ≤ 1600) (h1 : I 64 1 = n) : CN X 0 mX10_putNumber [(2, 64), (0, x)] I R (fun _ I' R' => I' 64 1 = n + 4 ∧ (∀ i, I' 65 i = if n ≤ i ∧ i < n + 4 then byt x (i - n) else I 65 i) ∧ FR (fun a b => a = 65 ∨ (a = 64 ∧ b = 1)) I I' ∧ R' = R) := by
  refine callee_b (by decide +kernel) (Nat.le_of_ble_eq_true rfl) rfl ?_
  exact S_X10_putNumber_0 (pn_loop (n := n) hs hx hn (fun I' a b c => ⟨a, b, c, rfl⟩) _ 0 I (Nat.lt_succ_self _) (by decide) (by decide) (by omega) (fun i => by rw [if_neg (by omega)]) FR.rf)
theorem fd_step {A t t' t'' : Int → Int} {n q x : Int} (hx : A q = x) (hq : 0 ≤ q) (h : t' = fdK A t n (4 * q)) (h2 : ∀ i, t'' i = if n + 4 * q ≤ i ∧ i < n + 4 * q + 4 then byt x (i - (n + 4 * q)) else t' i) : t'' = fdK A t n (4 * (q + 1)) := by
  funext i
  rw [h2, h]
  unfold fdK
  by_cases c : n + 4 * q ≤ i ∧ i < n + 4 * q + 4
  · rw [if_pos c, if_pos (by omega), show (i - n) / 4 = q by omega, hx, show (i - n) % 4 = i - (n + 4 * q) by omega]
  · rw [if_neg c]
    by_cases c2 : n ≤ i ∧ i < n + 4 * q
    · rw [if_pos c2, if_pos (by omega)]
    · rw [if_neg c2, if_neg (by omega)]
theorem c_xfeed {X : CX} {I R : PF} {n a b c d e : Int} (hs : Shp R) (ha : inR a) (hb : inR b) (hc : inR c) (hd : inR d) (he : inR e) (hn : 0 ≤ n ∧ n + 20 ≤ 1600) (h1 : I 64 1 = n) : CN X 1 mX10_feed [(2, 64), (0, a), (0, b), (0, c), (0, d), (0, e)] I R (fun v I' R' => v.2 = n + 20 ∧ I' 64 1 = n + 20 ∧ I' 65 = fdK (sel5 a b c d e) (I 65) n 20 ∧ FR (fun a b => a = 65 ∨ (a = 64 ∧ b = 1)) I I' ∧ R' = R) := by
  refine callee_b (by decide +kernel) (Nat.le_of_ble_eq_true rfl) rfl ?_
  have e0 : I 65 = fdK (sel5 a b c d e) (I 65) n (4 * 0) := by funext i; unfold fdK; rw [if_neg (by omega)]
  generalize ht : I 65 = t at e0
  refine S_X10_feed_0 (by omega) (fun _ => ?_) (fun g => by omega)
  refine S_X10_feed_25 (d1 := 0) (by omega) (c_putNumber hs ha (by omega) h1) (fun z I1 R1 q => ?_)
  obtain ⟨q1, q2, q3, rfl⟩ := q
  have w1 := fd_step (A := sel5 a b c d e) (t := t) (t' := t) (t'' := I1 65) (n := n) (q := 0) (x := a) rfl (by decide) e0 (fun i => by rw [q2, ht, show n + 4 * 0 = n by omega])
  refine S_X10_feed_30 (d1 := 0) (by omega) (c_putNumber (n := n + 4) hs hb (by omega) q1) (fun z I2 R2 q => ?_)
  obtain ⟨q4, q5, q6, rfl⟩ := q
  have w2 := fd_step (A := sel5 a b c d e) (t := t) (n := n) (q := 1) (x := b) rfl (by decide) w1 (t'' := I2 65) (fun i => by rw [q5, show n + 4 * 1 = n + 4 by omega])
  refine S_X10_feed_35 (d1 := 0) (by omega) (c_putNumber (n := n + 8) hs hc (by omega) (by omega)) (fun z I3 R3 q => ?_)
  obtain ⟨q7, q8, q9, rfl⟩ := q
  have w3 := fd_step (A := sel5 a b c d e) (t := t) (n := n) (q := 2) (x := c) rfl (by decide) w2 (t'' := I3 65) (fun i => by rw [q8, show n + 4 * 2 = n + 8 by omega])
  refine S_X10_feed_40 (d1 := 0) (by omega) (c_putNumber (n := n + 12) hs hd (by omega) (by omega)) (fun z I4 R4 q => ?_)
  obtain ⟨qa, qb, qc, rfl⟩ := q
  have w4 := fd_step (A := sel5 a b c d e) (t := t) (n := n) (q := 3) (x := d) rfl (by decide) w3 (t'' := I4 65) (fun i => by rw [qb, show n + 4 * 3 = n + 12 by omega])
  refine S_X10_feed_46 (d1 := 0) (by omega) (c_putNumber (n := n + 16) hs he (by omega) (by omega)) (fun z I5 R5 q => ?_)
  obtain ⟨qd, qe, qf, rfl⟩ := q
  have w5 := fd_step (A := sel5 a b c d e) (t := t) (n := n) (q := 4) (x := e) rfl (by decide) w4 (t'' := I5 65) (fun i => by rw [qe, show n + 4 * 4 = n + 16 by omega])
  exact S_X10_feed_52 ⟨by show I5 64 1 = _; omega, by omega, w5, (((q3.tr q6).tr q9).tr qc).tr qf, rfl⟩
theorem mf_loop {X : CX} {R : PF} {Q : PV → PF → PF → Prop} {I0 : PF} {n a b c d e : Int} (hs : Shp R) (ha : inR a) (hb : inR b) (hc : inR c) (hd : inR d) (he : inR e) (hn : 0 ≤ n ∧ n + 20 ≤ 1600) (hQ : ∀ I', I' 306 1 = n + 20 → I' 307 = fdK (sel5 a b c d e) (I0 307) n 20 → FR (fun a b => a = 307 ∨ (a = 306 ∧ b = 1)) I0 I' → Q (0, n + 20) I' R) :
    ∀ (m : Nat) (k : Int) (I : PF), (20 - k).toNat < m → 0 ≤ k → k ≤ 20 → I 306 1 = n + k → I 307 = fdK (sel5 a b c d e) (I0 307) n k → FR (fun a b => a = 307 ∨ (a = 306 ∧ b = 1)) I0 I → PN X 0 mX11_feed 28 [(2, 306), (0, a), (0, b), (0, c), (0, d), (0, e), (0, k)] [] I R Q := by
  intro m
  induction m with
  | zero => intro k I h; exact absurd h (Nat.not_lt_zero _)
  | succ m ih =>
    intro k I hm k0 k1 h1 h7 hf
    refine S_X11_feed_28 (by omega) (fun g => ?_) (fun g => ?_)
    · obtain rfl : k = 20 := by omega
      refine S_X11_feed_124 ?_
      rw [h1]
      exact hQ I h1 h7 hf
    have hm4 : k.tmod 4 = k % 4 := Int.tmod_eq_emod_of_nonneg k0
    have put : ∀ w, w = sel5 a b c d e (k / 4) → inR w → PN X 0 mX11_feed 81 [(2, 306), (0, a), (0, b), (0, c), (0, d), (0, e), (0, k)] [(0, w)] I R Q := fun w hw hr => by
      refine S_X11_feed_81 hs (by omega) (by omega) ?_
      rw [and255, hm4, shr_v hr _ (by omega), h1, u2_o (by decide), h1]
      have g1 : FR (fun a b => a = 307 ∨ (a = 306 ∧ b = 1)) I (u2 (u2 I 307 (n + k) (w / 2 ^ (8 * (3 - k % 4)).toNat % 256)) 306 1 (n + k + 1)) := (FR_u2 (Or.inl rfl)).tr (FR_u2 (Or.inr ⟨rfl, rfl⟩))
      refine ih (k + 1) _ (by omega) (by omega) (by omega) (by rw [u2_at]; omega) ?_ (hf.tr g1)
      funext i
      rw [u2_o (by decide)]
      unfold fdK
      by_cases ci : i = n + k
      · rw [ci, u2_at, if_pos (by omega), show n + k - n = k by omega, ← hw]
        rfl
      · rw [u2_j ci, h7]
        unfold fdK
        by_cases c2 : n ≤ i ∧ i < n + k
        · rw [if_pos c2, if_pos (by omega)]
        · rw [if_neg c2, if_neg (by omega)]
    unfold sel5 at put
    refine S_X11_feed_35 (by omega) (fun g1 => ?_) (fun g1 => S_X11_feed_41 (put a (by rw [if_pos (by omega)]) ha))
    refine S_X11_feed_45 (by omega) (fun g2 => ?_) (fun g2 => S_X11_feed_52 (put b (by rw [if_neg (by omega), if_pos (by omega)]) hb))
    refine S_X11_feed_56 (by omega) (fun g3 => ?_) (fun g3 => S_X11_feed_63 (put c (by rw [if_neg (by omega), if_neg (by omega), if_pos (by omega)]) hc))
    refine S_X11_feed_67 (by omega) (fun g4 => ?_) (fun g4 => S_X11_feed_74 (put d (by rw [if_neg (by omega), if_neg (by omega), if_neg (by omega), if_pos (by omega)]) hd))
    exact S_X11_feed_79 (put e (by rw [if_neg (by omega), if_neg (by omega), if_neg (by omega), if_neg (by omega)]) he)
theorem b_feed {X : CX} {I R : PF} {a b c d e : Int} (h : Sim I R) (ha : inR a) (hb : inR b) (hc : inR c) (hd : inR d) (he : inR e) : Both X 1 0 mX10_feed mX11_feed [(0, a), (0, b), (0, c), (0, d), (0, e)] I R := by
  have hs := h.1
  obtain ⟨t1, t2, t3, t4, t5⟩ := h.2.2.1
  by_cases g : I 306 1 + 20 ≤ 1600
  · refine Callee.mono (c_xfeed (n := I 306 1) hs ha hb hc hd he ⟨t3, g⟩ t2) (fun v I1 R1 q => ?_)
    obtain ⟨q1, q2, q3, q4, rfl⟩ := q
    have e1 : I1 306 1 = I 306 1 := q4 _ _ (fun c => by omega)
    have e7 : I1 307 = I 307 := funext fun y => q4 _ _ (fun c => by omega)
    refine callee_b (by decide +kernel) (Nat.le_of_ble_eq_true rfl) rfl ?_
    refine S_X11_feed_0 (by omega) (fun _ => S_X11_feed_25 ?_) (fun g2 => by omega)
    refine mf_loop (n := I 306 1) (I0 := I1) hs ha hb hc hd he ⟨t3, g⟩ (fun I2 w1 w2 w3 => ⟨q1.symm, ?_⟩) _ 0 I1 (Nat.lt_succ_self _) (by decide) (by decide) (by omega) (by funext i; unfold fdK; rw [if_neg (by omega)]) FR.rf
    obtain ⟨p, o, hp⟩ := h.plc
    have f : FR (fun a b => a = 65 ∨ (a = 64 ∧ b = 1) ∨ a = 307 ∨ (a = 306 ∧ b = 1)) I I2 := (q4.mono (fun x y c => by omega)).tr (w3.mono (fun x y c => by omega))
    have x65 : I2 65 = I1 65 := funext fun y => w3 _ _ (fun c => by omega)
    refine h.up hp (f.mono (fun x y c => by unfold scA smC; omega)) FR.rf ⟨by rw [x65, q3, w2, t1, e7], by rw [w1, w3 64 1 (fun c => by omega), q2], by omega, by omega, fun j j0 j1 => ?_⟩ (h.2.2.2.1.cg (f.mono (fun x y c => by omega)) (fun j => ?_))
    · rw [w2, e7]
      unfold fdK
      by_cases c : I 306 1 ≤ j ∧ j < I 306 1 + 20
      · rw [if_pos c]; exact byt_r _ _
      · rw [if_neg c]; exact t5 j j0 j1
    · rw [f 66 j (fun c => by omega), f 308 j (fun c => by omega)]; exact h.2.2.2.1.1 j
  · refine callee_b (by decide +kernel) (Nat.le_of_ble_eq_true rfl) rfl ?_
    refine S_X10_feed_0 (by omega) (fun g2 => by omega) (fun _ => S_X10_feed_13 hs ?_)
    refine callee_b (by decide +kernel) (Nat.le_of_ble_eq_true rfl) rfl ?_
    exact S_X11_feed_0 (by rw [u2_o (by decide)]; omega) (fun g2 => by rw [u2_o (by decide)] at g2; omega) (fun _ => S_X11_feed_13 hs ⟨rfl, h.rf 0⟩)
