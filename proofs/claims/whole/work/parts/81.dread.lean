/-! ===== the class reads a square's text: what its cells tell ===== -/
def QR (D : PF) (o : Int) (I : PF) : Prop :=
  (I o 0 = D 341 0 ∧ I o 1 = D 341 1 ∧ I o 2 = D 341 2 ∧ I o 3 = D 341 3 ∧ I o 4 = D 341 4) ∧
  (I o 5 = D 339 0 ∧ I o 6 = D 339 2 ∧ I o 7 = D 306 48 ∧ I (o + 11) 3 = D 339 1) ∧
  (∀ k, 0 ≤ k → k < D 339 0 → I (o + 1) k = pad (D 340 k)) ∧
  (∀ k, 0 ≤ k → k < D 339 1 → I (o + 2) k = pad (D 340 (6 + k))) ∧
  (∀ j, 0 ≤ j → j < 81 → I (o + 3) j = 0 ∨ I (o + 3) j = 1) ∧
  (∀ x y, 0 ≤ x → x < 9 → 0 ≤ y → y < 9 → (I (o + 3) (9 * y + x) ≠ 0 ↔ wlT D x y)) ∧
  (∀ p, 0 ≤ p → p < D 339 1 → I (o + 11 + 2 + p) 0 = D 343 (4 * p) ∧ I (o + 11 + 2 + p) 1 = D 343 (4 * p + 1) ∧ I (o + 11 + 2 + p) 2 = D 342 (4 * p) ∧ I (o + 11 + 2 + p) 3 = D 342 (4 * p + 1) ∧ I (o + 11 + 2 + p) 4 = D 342 (4 * p + 2) ∧ I (o + 11 + 2 + p) 5 = D 343 (4 * p + 2) ∧ I (o + 11 + 2 + p) 6 = D 343 (4 * p + 3)) ∧
  (∀ w, (w = 0 ∨ w = 1) → (D 345 w = -1 → I (o + 5 + 3 * w) 2 = 0) ∧ (D 345 w ≠ -1 → I (o + 5 + 3 * w) 2 = D 346 w - D 345 w ∧ ∀ k, 0 ≤ k → k < D 346 w - D 345 w → I (o + 5 + 3 * w + 1) k = dc (D 347 (D 345 w + k))))
def dQ (o x y : Int) : Prop := sF x y ∨ (x = 71 ∧ (y = 2 ∨ y = 3)) ∨ (o ≤ x ∧ x ≤ o + 18 ∧ y ≠ 7) ∨ (x = o ∧ y = 7) ∨ (o + 1 ≤ x ∧ x ≤ o + 10)
def QG (t : Int → Int) (n : Int) (s : SA) (D : PF) (o : Int) (I R : PF) : Prop := DSt t n s I R ∧ R 110 2 = o ∧ kd MF o = 6 ∧ QR D o I ∧ GD D
theorem sF_Q {o : Int} {I J : PF} (h : FR sF I J) : FR (dQ o) I J := h.mono (fun x y c => Or.inl c)
theorem QR.fr {D : PF} {o : Int} {I I' : PF} (h : QR D o I) (g : ∀ x, o ≤ x → x ≤ o + 18 → I' x = I x) (hD : GD D) : QR D o I' := by
  obtain ⟨⟨a1, a2, a3, a4, a5⟩, ⟨b1, b2, b3, b4⟩, c1, c2, c3, c4, c5, c6⟩ := h
  obtain ⟨-, ⟨-, -, -, r4, -⟩, -⟩ := hD
  have e : ∀ x y, o ≤ x → x ≤ o + 18 → I' x y = I x y := fun x y h1 h2 => by rw [g x h1 h2]
  refine ⟨⟨(e _ _ (by omega) (by omega)).trans a1, (e _ _ (by omega) (by omega)).trans a2, (e _ _ (by omega) (by omega)).trans a3, (e _ _ (by omega) (by omega)).trans a4, (e _ _ (by omega) (by omega)).trans a5⟩, ⟨(e _ _ (by omega) (by omega)).trans b1, (e _ _ (by omega) (by omega)).trans b2, (e _ _ (by omega) (by omega)).trans b3, (e _ _ (by omega) (by omega)).trans b4⟩, ?_, ?_, ?_, ?_, ?_, ?_⟩
  · intro k k0 k1; rw [e _ _ (by omega) (by omega)]; exact c1 k k0 k1
  · intro k k0 k1; rw [e _ _ (by omega) (by omega)]; exact c2 k k0 k1
  · intro j j0 j1; rw [e _ _ (by omega) (by omega)]; exact c3 j j0 j1
  · intro x y x0 x1 y0 y1; rw [e _ _ (by omega) (by omega)]; exact c4 x y x0 x1 y0 y1
  · intro p p0 p1
    rw [g (o + 11 + 2 + p) (by omega) (by omega)]
    exact c5 p p0 p1
  · intro w hw
    obtain ⟨d1, d2⟩ := c6 w hw
    rw [g (o + 5 + 3 * w) (by omega) (by omega), g (o + 5 + 3 * w + 1) (by omega) (by omega)]
    exact ⟨d1, d2⟩
theorem QG.scan {t : Int → Int} {n : Int} {s s' : SA} {D : PF} {o : Int} {I R I' R' : PF} (h : QG t n s D o I R) (h1 : DSt t n s' I' R') (g : FR sF I I') (gr : FR sR R R') : QG t n s' D o I' R' := by
  obtain ⟨-, a2, a3, a4, a5⟩ := h
  have ho := sq_o a3
  refine ⟨h1, (gr 110 2 (fun c => by unfold sR at c; omega)).trans a2, a3, a4.fr (fun x h1 h2 => funext fun y => g x y (fun c => by unfold sF at c; omega)) a5, a5⟩
def QRes (t : Int → Int) (n : Int) (s : SA) (D : PF) (o v : Int) (I R : PF) : Prop := match s with
  | .inl q => v = 1 ∧ QG t n (.inl q) D o I R
  | .inr f => v = 0 ∧ DSt t n (.inr f) I R
theorem c_takeKind {X : CX} {I R : PF} {t : Int → Int} {n a b : Int} {q : Int × Bool} (hs : Shp R) (h : DSt t n (.inl q) I R) (ha : inR a) (hb : inR b) :
    CN X 2 mX7_takeKind [(2, 110), (0, a), (0, b)] I R (fun v I' R' => (a < b ∧ v.2 = 1 ∧ DSt t n (.inl (behT t n q)) I' R' ∨ b ≤ a ∧ v.2 = 0 ∧ DSt t n (.inr (5, skp t n q.1)) I' R') ∧ FR sF I I' ∧ FR sR R R') := by
  refine callee_b (by decide +kernel) (Nat.le_of_ble_eq_true rfl) rfl ?_
  refine S_X7_takeKind_0 ha hb (fun g => ?_) (fun g => ?_)
  · refine S_X7_takeKind_21 (d1 := 1) hs (by omega) (c_adv hs h) (fun z I2 R2 p => ?_)
    obtain ⟨p1, p2, p3, p4⟩ := p
    exact S_X7_takeKind_28 ⟨Or.inl ⟨g, rfl, p1⟩, p3, p4⟩
  · refine S_X7_takeKind_5 (d1 := 0) hs (by omega) (c_refuse h (by decide)) (fun z I2 R2 p => ?_)
    obtain ⟨(p1 : z = 0), p2, p3, rfl⟩ := p
    rw [h.1.2.2.2.1] at p2
    exact S_X7_takeKind_20 (by omega) ⟨Or.inr ⟨g, p1, p2⟩, p3, FR.rf⟩
theorem GD.r {D : PF} (h : GD D) : (2 ≤ D 341 0 ∧ D 341 0 ≤ 9 ∧ 2 ≤ D 341 1 ∧ D 341 1 ≤ 9 ∧ 0 ≤ D 341 2 ∧ D 341 2 < D 341 0 ∧ 0 ≤ D 341 3 ∧ D 341 3 < D 341 1 ∧ 1 ≤ D 341 4 ∧ D 341 4 ≤ 9) ∧ (0 ≤ D 339 0 ∧ D 339 0 ≤ 6 ∧ 0 ≤ D 339 1 ∧ D 339 1 ≤ 6 ∧ 0 ≤ D 339 2 ∧ D 339 2 ≤ 10) := ⟨h.1, h.2.1⟩
theorem pad_r {v : Int} (h : okW v) : 0 ≤ pad v ∧ pad v < 387420489 := by
  unfold okW at h
  unfold pad
  repeat' split
  all_goals omega
theorem nam_D {t : Int → Int} {n : Int} {q q' : Int × Bool} (h : namS t n (.inl q) = .inl q') : valD t n q = pad (valW t n q) ∧ okW (valW t n q) := by
  obtain ⟨w1, w2, -⟩ := nam_ok h
  obtain ⟨w3, w4⟩ := valW_l w2 w1
  refine ⟨?_, w3⟩
  rw [← w4]
  unfold valD tva
  rw [if_pos w1.1, if_pos w1.2.1]; rfl
/-- names are known by their six letters -/
theorem knw_D {D : PF} {o : Int} {I : PF} {v : Int} (hQ : QR D o I) (hD : GD D) (hv : okW v) : ((∃ k, 0 ≤ k ∧ k < I o 5 ∧ I (o + 1) k = pad v) ∨ (∃ k, 0 ≤ k ∧ k < I (o + 11) 3 ∧ I (o + 2) k = pad v)) ↔ knw D v := by
  obtain ⟨-, ⟨b1, -, -, b4⟩, c1, c2, -⟩ := hQ
  obtain ⟨-, -, a3, a4, -⟩ := hD
  rw [b1, b4]
  unfold knw
  constructor
  · rintro (⟨k, k0, k1, k2⟩ | ⟨k, k0, k1, k2⟩)
    · rw [c1 k k0 k1] at k2; exact Or.inl ⟨k, k0, k1, pad_inj (a3 k k0 k1) hv k2⟩
    · rw [c2 k k0 k1] at k2; exact Or.inr ⟨k, k0, k1, pad_inj (a4 k k0 k1) hv k2⟩
  · rintro (⟨k, k0, k1, k2⟩ | ⟨k, k0, k1, k2⟩)
    · exact Or.inl ⟨k, k0, k1, by rw [c1 k k0 k1, k2]⟩
    · exact Or.inr ⟨k, k0, k1, by rw [c2 k k0 k1, k2]⟩
theorem lwI_D {D : PF} {o : Int} {I : PF} {v : Int} (hQ : QR D o I) (hD : GD D) (hv : okW v) : fI (fun k => I (o + 1) k = pad v) (I o 5) = lwI D v := by
  obtain ⟨-, ⟨b1, -⟩, c1, -⟩ := hQ
  obtain ⟨-, -, a3, -⟩ := hD
  rw [b1]
  unfold lwI
  refine fI_congr (fun i i0 i1 => ?_)
  rw [c1 i i0 i1]
  exact ⟨fun e => pad_inj (a3 i i0 i1) hv e, fun e => by rw [e]⟩
theorem QR.nr {D : PF} {o : Int} {I : PF} (hQ : QR D o I) (hD : GD D) : (0 ≤ I o 5 ∧ I o 5 ≤ 6) ∧ (∀ k, 0 ≤ k → k < I o 5 → inR (I (o + 1) k)) ∧ (0 ≤ I (o + 11) 3 ∧ I (o + 11) 3 ≤ 6) ∧ (∀ k, 0 ≤ k → k < I (o + 11) 3 → inR (I (o + 2) k)) := by
  obtain ⟨-, ⟨b1, -, -, b4⟩, c1, c2, -⟩ := hQ
  obtain ⟨-, r, a3, a4, -⟩ := hD
  refine ⟨by omega, fun k k0 k1 => ?_, by omega, fun k k0 k1 => ?_⟩
  · rw [c1 k k0 (by omega)]; have := pad_r (a3 k k0 (by omega)); omega
  · rw [c2 k k0 (by omega)]; have := pad_r (a4 k k0 (by omega)); omega
theorem c_takeNewName {X : CX} {I R : PF} {t : Int → Int} {n o : Int} {q : Int × Bool} {D : PF} (hs : Shp R) (h : QG t n (.inl q) D o I R) :
    CN X 3 mX7_takeNewName [(2, 110)] I R (fun v I' R' => (match newS t n D (.inl q) with
      | .inl q' => v.2 = pad (valW t n q) ∧ 0 ≤ v.2 ∧ v.2 < 387420489 ∧ QG t n (.inl q') D o I' R'
      | .inr f => v.2 = -1 ∧ DSt t n (.inr f) I' R') ∧ FR sF I I' ∧ FR sR R R') := by
  refine callee_b (by decide +kernel) (Nat.le_of_ble_eq_true rfl) rfl ?_
  refine S_X7_takeNewName_0 (d1 := 2) hs (by omega) (c_takeName hs h.1) (fun z I1 R1 p => ?_)
  obtain ⟨p1, p2, p3⟩ := p
  have hs1 := hs.fr (sR_mR p3)
  unfold ARes at p1
  cases hn : namS t n (.inl q) with
  | inr f =>
    rw [hn] at p1
    obtain ⟨(e1 : z = _), e2⟩ := p1
    have en : newS t n D (.inl q) = .inr f := by
      unfold newS; rw [hn]
      by_cases c : knw D (vW t n (.inl q))
      · exact cif_t c
      · exact cif_f c
    rw [en]
    refine S_X7_takeNewName_7 (by omega) (fun _ => ?_) (fun g => absurd e1 g)
    exact S_X7_takeNewName_42 ⟨⟨e1, e2⟩, p2, p3⟩
  | inl q' =>
    rw [hn] at p1
    obtain ⟨(e1 : z = _), e2, e3, e4, e5⟩ := p1
    simp only at e2 e3
    obtain ⟨n1, n2⟩ := nam_D hn
    have G1 := h.scan e5 p2 p3
    obtain ⟨r1, r2, r3, r4⟩ := G1.2.2.2.1.nr G1.2.2.2.2
    have ez : z = pad (valW t n q) := e1.trans n1
    refine S_X7_takeNewName_7 (by omega) (fun g => by omega) (fun _ => ?_)
    refine S_X7_takeNewName_13 (d1 := 1) G1.2.1 (by omega) (c_knowsName hs1 G1.2.2.1 r1 r2 r3 r4 (by omega)) G1.2.2.1 (fun y I2 R2 p => ?_)
    obtain ⟨(hy : y = _), rfl, rfl⟩ := p
    rw [ez] at hy
    have kk := knw_D G1.2.2.2.1 G1.2.2.2.2 n2
    rw [bi_congr kk] at hy
    have br := bi_r (knw D (valW t n q))
    refine S_X7_takeNewName_21 (by omega) (fun g => ?_) (fun g => ?_)
    · have c := bi_0 (hy.symm.trans g)
      have en : newS t n D (.inl q) = .inl q' := by unfold newS; rw [cif_f (show ¬ knw D (vW t n (.inl q)) from c), hn]
      rw [en]
      exact S_X7_takeNewName_42 ⟨⟨ez, e2, e3, G1⟩, p2, p3⟩
    · have c := bi_1 (by rw [← hy]; exact g)
      have en : newS t n D (.inl q) = .inr (3, skp t n q.1) := by unfold newS; rw [cif_t (show knw D (vW t n (.inl q)) from c), hn]; rfl
      rw [en]
      refine S_X7_takeNewName_24 (d1 := 0) hs1 (by omega) (c_refuse G1.1 (by decide)) (fun y I3 R3 p => ?_)
      obtain ⟨k1, k2, k3, rfl⟩ := p
      rw [e4] at k2
      exact S_X7_takeNewName_39 ⟨⟨rfl, k2⟩, p2.tr k3, p3⟩
theorem c_takeLaw {X : CX} {I R : PF} {t : Int → Int} {n o : Int} {q : Int × Bool} {D : PF} (hs : Shp R) (h : QG t n (.inl q) D o I R) :
    CN X 3 mX7_takeLaw [(2, 110)] I R (fun v I' R' => (match lawR t n D (.inl q) with
      | .inl q' => v.2 = lwI D (valW t n q) ∧ 0 ≤ v.2 ∧ v.2 < 6 ∧ QG t n (.inl q') D o I' R'
      | .inr f => v.2 = -1 ∧ DSt t n (.inr f) I' R') ∧ FR sF I I' ∧ FR sR R R') := by
  refine callee_b (by decide +kernel) (Nat.le_of_ble_eq_true rfl) rfl ?_
  refine S_X7_takeLaw_0 (d1 := 2) hs (by omega) (c_takeName hs h.1) (fun z I1 R1 p => ?_)
  obtain ⟨p1, p2, p3⟩ := p
  have hs1 := hs.fr (sR_mR p3)
  unfold ARes at p1
  cases hn : namS t n (.inl q) with
  | inr f =>
    rw [hn] at p1
    obtain ⟨(e1 : z = _), e2⟩ := p1
    have en : lawR t n D (.inl q) = .inr f := by
      unfold lawR; rw [hn]
      by_cases c : lwI D (vW t n (.inl q)) = -1
      · exact cif_t c
      · exact cif_f c
    rw [en]
    refine S_X7_takeLaw_7 (by omega) (fun g => absurd e1 g) (fun _ => ?_)
    exact S_X7_takeLaw_13 ⟨⟨rfl, e2⟩, p2, p3⟩
  | inl q' =>
    rw [hn] at p1
    obtain ⟨(e1 : z = _), e2, e3, e4, e5⟩ := p1
    simp only at e2 e3
    obtain ⟨n1, n2⟩ := nam_D hn
    have G1 := h.scan e5 p2 p3
    obtain ⟨r1, r2, r3, r4⟩ := G1.2.2.2.1.nr G1.2.2.2.2
    have ez : z = pad (valW t n q) := e1.trans n1
    refine S_X7_takeLaw_7 (by omega) (fun _ => ?_) (fun g => by omega)
    refine S_X7_takeLaw_15 (d1 := 0) G1.2.1 (by omega) (c_lawNamed hs1 G1.2.2.1 r1 r2 (by omega)) G1.2.2.1 (fun y I2 R2 p => ?_)
    obtain ⟨(hy : y = _), rfl, rfl⟩ := p
    rw [ez, lwI_D G1.2.2.2.1 G1.2.2.2.2 n2] at hy
    have yr : -1 ≤ y ∧ y < 6 ∧ (y = -1 ∨ 0 ≤ y) := by
      have := G1.2.2.2.2.r
      rw [hy]; unfold lwI
      rcases fI_fst (fun k => D 340 k = valW t n q) (D 339 0) with ⟨e, -⟩ | ⟨e1, e2, -⟩ <;> omega
    refine S_X7_takeLaw_23 (by omega) (fun g => ?_) (fun g => ?_)
    · have en : lawR t n D (.inl q) = .inl q' := by unfold lawR; rw [cif_f (show ¬ lwI D (vW t n (.inl q)) = -1 from by show ¬ lwI D (valW t n q) = -1; omega), hn]
      rw [en]
      exact S_X7_takeLaw_45 ⟨⟨hy, by show 0 ≤ y; omega, by show y < 6; omega, G1⟩, p2, p3⟩
    · have en : lawR t n D (.inl q) = .inr (3, skp t n q.1) := by unfold lawR; rw [cif_t (show lwI D (vW t n (.inl q)) = -1 from by show lwI D (valW t n q) = -1; omega), hn]; rfl
      rw [en]
      refine S_X7_takeLaw_29 (d1 := 0) hs1 (by omega) (c_refuse G1.1 (by decide)) (fun u I3 R3 p => ?_)
      obtain ⟨k1, k2, k3, rfl⟩ := p
      rw [e4] at k2
      exact S_X7_takeLaw_44 (S_X7_takeLaw_45 ⟨⟨g, k2⟩, p2.tr k3, p3⟩)
theorem c_takePlace {X : CX} {I R : PF} {t : Int → Int} {n o w : Int} {q : Int × Bool} {D : PF} (hs : Shp R) (h : QG t n (.inl q) D o I R) (hw : w = 0 ∨ w = 1) :
    CN X 3 mX7_takePlace [(2, 110), (0, w)] I R (fun v I' R' => (match plaS t n D (w ≠ 0) (.inl q) with
      | .inl q' => v.2 = 9 * vN t n (plaX t n D (.inl q)) + valN t n q ∧ QG t n (.inl q') D o I' R'
      | .inr f => v.2 = -1 ∧ DSt t n (.inr f) I' R') ∧ FR sF I I' ∧ FR sR R R') := by
  refine callee_b (by decide +kernel) (Nat.le_of_ble_eq_true rfl) rfl ?_
  have h' := h
  obtain ⟨d1, r110, hk, hQ, hD⟩ := h'
  obtain ⟨⟨ga, gb, gc, gd, ge, gf, gg, gh, -⟩, ⟨-, -, gj, gi, -⟩⟩ := hD.r
  have e0 : I o 0 = D 341 0 := hQ.1.1
  refine S_X7_takePlace_0 (d1 := 2) hs r110 hk (by omega) (c_takeNumber hs d1 (by decide) (by omega)) (fun x I1 R1 p => ?_)
  obtain ⟨p1, p2, p3⟩ := p
  have hs1 := hs.fr (sR_mR p3)
  rw [e0] at p1
  unfold NRes at p1
  have eX : plaX t n D (.inl q) = numS t n 0 (D 341 0 - 1) (.inl q) := rfl
  have bad : ∀ f, plaY t n D (.inl q) = .inr f → plaS t n D (w ≠ 0) (.inl q) = .inr f := fun f e => by
    unfold plaS; rw [e]
    by_cases c : plaB t n D (w ≠ 0) (.inl q)
    · exact cif_t c
    · exact cif_f c
  cases hx : numS t n 0 (D 341 0 - 1) (.inl q) with
  | inr f =>
    rw [hx] at p1
    obtain ⟨(e1 : x = _), e2⟩ := p1
    rw [bad f (by unfold plaY; rw [eX, hx]; rfl)]
    refine S_X7_takePlace_17 (by omega) (fun g => absurd e1 g) (fun _ => ?_)
    exact S_X7_takePlace_23 ⟨⟨rfl, e2⟩, p2, p3⟩
  | inl q1 =>
    rw [hx] at p1
    obtain ⟨(e1 : x = _), e2, e3, e4, e5⟩ := p1
    simp only at e2 e3
    have G1 := h.scan e5 p2 p3
    have e1' : I1 o 1 = D 341 1 := G1.2.2.2.1.1.2.1
    refine S_X7_takePlace_17 (by omega) (fun _ => ?_) (fun g => by omega)
    refine S_X7_takePlace_25 (d1 := 2) hs1 G1.2.1 hk (by omega) (c_takeNumber hs1 G1.1 (by decide) (by omega)) (fun y I2 R2 p => ?_)
    obtain ⟨k1, k2, k3⟩ := p
    have hs2 := hs1.fr (sR_mR k3)
    rw [e1'] at k1
    unfold NRes at k1
    have eY : plaY t n D (.inl q) = numS t n 0 (D 341 1 - 1) (.inl q1) := by unfold plaY; rw [eX, hx]
    cases hy : numS t n 0 (D 341 1 - 1) (.inl q1) with
    | inr f =>
      rw [hy] at k1
      obtain ⟨(e6 : y = _), e7⟩ := k1
      rw [bad f (by rw [eY, hy])]
      refine S_X7_takePlace_42 (by omega) (fun g => absurd e6 g) (fun _ => ?_)
      exact S_X7_takePlace_48 ⟨⟨rfl, e7⟩, p2.tr k2, p3.tr k3⟩
    | inl q2 =>
      rw [hy] at k1
      obtain ⟨(e6 : y = _), e7, e8, e9, e10⟩ := k1
      simp only at e7 e8
      have G2 := G1.scan e10 k2 k3
      obtain ⟨⟨a1, a2, a3, a4, -⟩, ⟨-, -, -, b4⟩, -, -, c3, c4, c5, -⟩ := G2.2.2.2.1
      have ez : vN t n (.inl q) = x := e1.symm
      have ey : vN t n (plaX t n D (.inl q)) = y := by rw [eX, hx]; exact e6.symm
      have eB : plaB t n D (w ≠ 0) (.inl q) ↔ wlT D x y ∨ psT D x y ∨ (w ≠ 0 ∧ x = D 341 2 ∧ y = D 341 3) := by unfold plaB; rw [ez, ey]
      have hps : (fI (fun p => I2 (o + 11 + 2 + p) 0 = x ∧ I2 (o + 11 + 2 + p) 1 = y) (I2 (o + 11) 3) ≠ -1) ↔ psT D x y := by
        rw [b4]
        constructor
        · intro c
          rcases fI_fst (fun p => I2 (o + 11 + 2 + p) 0 = x ∧ I2 (o + 11 + 2 + p) 1 = y) (D 339 1) with ⟨e, -⟩ | ⟨f1, f2, f3, -⟩
          · exact absurd e c
          · have := c5 _ f1 f2
            exact ⟨_, f1, f2, by rw [← this.1]; exact f3.1, by rw [← this.2.1]; exact f3.2⟩
        · rintro ⟨k, k0, k1, k2, k3⟩ c
          have := fI_none.mp c k k0 k1
          have c5' := c5 k k0 k1
          exact this ⟨c5'.1.trans k2, c5'.2.1.trans k3⟩
      have rows : ∀ p, 0 ≤ p → p < I2 (o + 11) 3 → inR (I2 (o + 11 + 2 + p) 0) ∧ inR (I2 (o + 11 + 2 + p) 1) := fun p p0 p1 => by
        have c5' := c5 p p0 (by omega)
        have := hD.2.2.2.2.2.1 p p0 (by omega)
        rw [c5'.1, c5'.2.1]; omega
      have fin : ∀ v : Int, (v ≠ 0 ↔ (wlT D x y ∨ psT D x y)) → inR v → PN X 3 mX7_takePlace 83 [(2, 110), (0, w), (0, x), (0, y)] [(0, v)] I2 R2 (fun v I' R' => (match plaS t n D (w ≠ 0) (.inl q) with
          | .inl q' => v.2 = 9 * vN t n (plaX t n D (.inl q)) + valN t n q ∧ QG t n (.inl q') D o I' R'
          | .inr f => v.2 = -1 ∧ DSt t n (.inr f) I' R') ∧ FR sF I I' ∧ FR sR R R') := fun v hv hvr => by
        have good : ¬ plaB t n D (w ≠ 0) (.inl q) → PN X 3 mX7_takePlace 124 [(9, 0), (9, 0), (0, x), (0, y)] [] I2 R2 (fun v I' R' => (match plaS t n D (w ≠ 0) (.inl q) with
            | .inl q' => v.2 = 9 * vN t n (plaX t n D (.inl q)) + valN t n q ∧ QG t n (.inl q') D o I' R'
            | .inr f => v.2 = -1 ∧ DSt t n (.inr f) I' R') ∧ FR sF I I' ∧ FR sR R R') := fun c => by
          have en : plaS t n D (w ≠ 0) (.inl q) = .inl q2 := by unfold plaS; rw [cif_f c, eY, hy]
          rw [en]
          refine S_X7_takePlace_124 ⟨⟨?_, G2⟩, p2.tr k2, p3.tr k3⟩
          show 9 * y + x = _
          rw [ey, e1]
        have full : plaB t n D (w ≠ 0) (.inl q) → PN X 3 mX7_takePlace 106 [(2, 110)] [] I2 R2 (fun v I' R' => (match plaS t n D (w ≠ 0) (.inl q) with
            | .inl q' => v.2 = 9 * vN t n (plaX t n D (.inl q)) + valN t n q ∧ QG t n (.inl q') D o I' R'
            | .inr f => v.2 = -1 ∧ DSt t n (.inr f) I' R') ∧ FR sF I I' ∧ FR sR R R') := fun c => by
          have en : plaS t n D (w ≠ 0) (.inl q) = .inr (2, skp t n q1.1) := by unfold plaS; rw [cif_t c, eY, hy, eX, hx]; rfl
          rw [en]
          refine S_X7_takePlace_106 (d1 := 0) hs2 (by omega) (c_refuse G2.1 (by decide)) (fun u I3 R3 p => ?_)
          obtain ⟨m1, m2, m3, rfl⟩ := p
          rw [e9] at m2
          exact S_X7_takePlace_121 ⟨⟨rfl, m2⟩, (p2.tr k2).tr m3, p3.tr k3⟩
        refine S_X7_takePlace_83 hvr (fun g => full (eB.mpr ((hv.mp g).elim Or.inl (fun c => Or.inr (Or.inl c))))) (fun g => ?_)
        have nv : ¬ (wlT D x y ∨ psT D x y) := fun c => hv.mpr c g
        refine S_X7_takePlace_90 (by omega) (fun gw => good (fun c => ?_)) (fun gw => ?_)
        · rcases eB.mp c with c | c | c
          · exact nv (Or.inl c)
          · exact nv (Or.inr c)
          · exact c.1 gw
        refine S_X7_takePlace_94 (d1 := 0) G2.2.1 (by omega) (c_hasTowerAt hk (by omega) (by omega) (by omega) (by omega)) hk (fun u I3 R3 p => ?_)
        obtain ⟨(hu : u = _), rfl, rfl⟩ := p
        have br := bi_r (x = I3 o 2 ∧ y = I3 o 3)
        refine S_X7_takePlace_103 (by omega) (fun g2 => good (fun c => ?_)) (fun g2 => full ?_)
        · have n2 := bi_0 (hu.symm.trans g2)
          rcases eB.mp c with c | c | c
          · exact nv (Or.inl c)
          · exact nv (Or.inr c)
          · exact n2 ⟨by omega, by omega⟩
        · have n2 := bi_1 (by rw [← hu]; exact g2)
          exact eB.mpr (Or.inr (Or.inr ⟨gw, by omega, by omega⟩))
      refine S_X7_takePlace_42 (by omega) (fun _ => ?_) (fun g => by omega)
      refine S_X7_takePlace_50 (d1 := 1) G2.2.1 (by omega) (c_walled hs2 hk (by omega) (by omega) (by omega) (by omega) (fun j j0 j1 => by have := c3 j j0 j1; omega)) hk (fun u I3 R3 p => ?_)
      obtain ⟨(hu : u = _), rfl, rfl⟩ := p
      have br := bi_r ((0 ≤ x ∧ x < I3 o 0 ∧ 0 ≤ y ∧ y < I3 o 1) ∧ I3 (o + 3) (9 * y + x) ≠ 0)
      have cw := c4 x y (by omega) (by omega) (by omega) (by omega)
      refine S_X7_takePlace_59 (by omega) (fun g => ?_) (fun g => ?_)
      · have c := bi_1 (by rw [← hu]; exact g)
        exact S_X7_takePlace_78 (fin 1 ⟨fun _ => Or.inl (cw.mp c.2), fun _ => by decide⟩ (by decide))
      · have c := bi_0 (hu.symm.trans g)
        have nw : ¬ wlT D x y := fun d => c ⟨by omega, cw.mpr d⟩
        refine S_X7_takePlace_62 (d1 := 1) hs2 G2.2.1 hk (by omega) (c_whoStands hs2 (sq11 hk) (by omega) rows (by omega) (by omega)) (fun u I4 R4 p => ?_)
        obtain ⟨(hu : u = _), rfl, rfl⟩ := p
        rw [← hu] at hps
        have ur : -1 ≤ u ∧ u < 6 := by
          rw [hu, b4]
          rcases fI_fst (fun p => I4 (o + 11 + 2 + p) 0 = x ∧ I4 (o + 11 + 2 + p) 1 = y) (D 339 1) with ⟨e, -⟩ | ⟨f1, f2, -⟩ <;> omega
        refine S_X7_takePlace_74 (by omega) (fun g => ?_) (fun g => ?_)
        · exact S_X7_takePlace_82 (fin 0 ⟨fun c => absurd rfl c, fun c => by
            rcases c with c | c
            · exact absurd c nw
            · exact absurd g (hps.mpr c)⟩ (by decide))
        · exact S_X7_takePlace_78 (fin 1 ⟨fun _ => Or.inr (hps.mp g), fun _ => by decide⟩ (by decide))
