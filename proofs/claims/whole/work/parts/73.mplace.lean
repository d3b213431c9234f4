/-! ===== the model reads a square's text: places, laws, walls ===== -/
theorem wlt_loop {X : CX} {d : Nat} {I R : PF} {Q : PV → PF → PF → Prop} {x y : Int} (hs : Shp R) (hm : 0 ≤ I 339 2 ∧ I 339 2 ≤ 10) (hc : ∀ k, 0 ≤ k → k < I 339 2 → inR (I 344 (2 * k)) ∧ inR (I 344 (2 * k + 1))) (hx : inR x) (hy : inR y) (hT : wlT I x y → Q (0, 1) I R) (hF : ¬ wlT I x y → Q (0, 0) I R) : ∀ (k : Nat) (x3 : Int), (I 339 2 - x3).toNat < k → 0 ≤ x3 → x3 ≤ I 339 2 → (∀ j, 0 ≤ j → j < x3 → ¬ (I 344 (2 * j) = x ∧ I 344 (2 * j + 1) = y)) →
    PN X d mX11_isWallTold 2 [(2, 306), (0, x), (0, y), (0, x3)] [] I R Q := by
  intro k
  induction k with
  | zero => intro x4 h; exact absurd h (Nat.not_lt_zero _)
  | succ k ih =>
    intro x3 h h0 h1 hj
    refine S_X11_isWallTold_2 hs (by omega) (by omega) (fun g => ?_) (fun g => ?_)
    · exact S_X11_isWallTold_46 (hF (fun ⟨j, j0, j1, j2, j3⟩ => hj j j0 (by omega) ⟨j2, j3⟩))
    have hck := hc x3 h0 g
    have next : ¬ (I 344 (2 * x3) = x ∧ I 344 (2 * x3 + 1) = y) → PN X d mX11_isWallTold 40 [(2, 306), (0, x), (0, y), (0, x3)] [] I R Q := fun c => by
      refine S_X11_isWallTold_40 (ih (x3 + 1) (by omega) (by omega) (by omega) (fun j j0 j1 => ?_))
      by_cases e : j = x3
      · rw [e]; exact c
      · exact hj j j0 (by omega)
    refine S_X11_isWallTold_12 hs (by omega) hck.1 hx (fun g2 => next (fun c => g2 c.1)) (fun g2 => ?_)
    refine S_X11_isWallTold_24 hs (by omega) hck.2 hy (fun g3 => next (fun c => g3 c.2)) (fun g3 => ?_)
    exact S_X11_isWallTold_38 (hT ⟨x3, h0, g, g2, g3⟩)
theorem c_isWallTold {X : CX} {I R : PF} {x y : Int} (hs : Shp R) (hm : 0 ≤ I 339 2 ∧ I 339 2 ≤ 10) (hc : ∀ k, 0 ≤ k → k < I 339 2 → inR (I 344 (2 * k)) ∧ inR (I 344 (2 * k + 1))) (hx : inR x) (hy : inR y) :
    CN X 0 mX11_isWallTold [(2, 306), (0, x), (0, y)] I R (fun v I' R' => v.2 = bi (wlT I x y) ∧ I' = I ∧ R' = R) := by
  refine callee_b (by decide +kernel) (Nat.le_of_ble_eq_true rfl) rfl ?_
  exact S_X11_isWallTold_0 (wlt_loop hs hm hc hx hy (fun c => ⟨(bi_t c).symm, rfl, rfl⟩) (fun c => ⟨(bi_f c).symm, rfl, rfl⟩) _ 0 (Nat.lt_succ_self _) (Int.le_refl _) (by omega) (fun j j0 j1 => by omega))
theorem pst_loop {X : CX} {d : Nat} {I R : PF} {Q : PV → PF → PF → Prop} {x y : Int} (hs : Shp R) (hm : 0 ≤ I 339 1 ∧ I 339 1 ≤ 6) (hc : ∀ k, 0 ≤ k → k < I 339 1 → inR (I 343 (4 * k)) ∧ inR (I 343 (4 * k + 1))) (hx : inR x) (hy : inR y) (hT : psT I x y → Q (0, 1) I R) (hF : ¬ psT I x y → Q (0, 0) I R) : ∀ (k : Nat) (x3 : Int), (I 339 1 - x3).toNat < k → 0 ≤ x3 → x3 ≤ I 339 1 → (∀ j, 0 ≤ j → j < x3 → ¬ (I 343 (4 * j) = x ∧ I 343 (4 * j + 1) = y)) →
    PN X d mX11_isPersonTold 2 [(2, 306), (0, x), (0, y), (0, x3)] [] I R Q := by
  intro k
  induction k with
  | zero => intro x4 h; exact absurd h (Nat.not_lt_zero _)
  | succ k ih =>
    intro x3 h h0 h1 hj
    refine S_X11_isPersonTold_2 hs (by omega) (by omega) (fun g => ?_) (fun g => ?_)
    · exact S_X11_isPersonTold_46 (hF (fun ⟨j, j0, j1, j2, j3⟩ => hj j j0 (by omega) ⟨j2, j3⟩))
    have hck := hc x3 h0 g
    have next : ¬ (I 343 (4 * x3) = x ∧ I 343 (4 * x3 + 1) = y) → PN X d mX11_isPersonTold 40 [(2, 306), (0, x), (0, y), (0, x3)] [] I R Q := fun c => by
      refine S_X11_isPersonTold_40 (ih (x3 + 1) (by omega) (by omega) (by omega) (fun j j0 j1 => ?_))
      by_cases e : j = x3
      · rw [e]; exact c
      · exact hj j j0 (by omega)
    refine S_X11_isPersonTold_12 hs (by omega) hck.1 hx (fun g2 => next (fun c => g2 c.1)) (fun g2 => ?_)
    refine S_X11_isPersonTold_24 hs (by omega) hck.2 hy (fun g3 => next (fun c => g3 c.2)) (fun g3 => ?_)
    exact S_X11_isPersonTold_38 (hT ⟨x3, h0, g, g2, g3⟩)
theorem c_isPersonTold {X : CX} {I R : PF} {x y : Int} (hs : Shp R) (hm : 0 ≤ I 339 1 ∧ I 339 1 ≤ 6) (hc : ∀ k, 0 ≤ k → k < I 339 1 → inR (I 343 (4 * k)) ∧ inR (I 343 (4 * k + 1))) (hx : inR x) (hy : inR y) :
    CN X 0 mX11_isPersonTold [(2, 306), (0, x), (0, y)] I R (fun v I' R' => v.2 = bi (psT I x y) ∧ I' = I ∧ R' = R) := by
  refine callee_b (by decide +kernel) (Nat.le_of_ble_eq_true rfl) rfl ?_
  exact S_X11_isPersonTold_0 (pst_loop hs hm hc hx hy (fun c => ⟨(bi_t c).symm, rfl, rfl⟩) (fun c => ⟨(bi_f c).symm, rfl, rfl⟩) _ 0 (Nat.lt_succ_self _) (Int.le_refl _) (by omega) (fun j j0 j1 => by omega))
/-- the cells that reading a place changes -/
def mPl (x y : Int) : Prop := x = 306 ∧ (y = 2 ∨ y = 4 ∨ y = 5 ∨ y = 6 ∨ y = 10 ∨ y = 41 ∨ y = 57 ∨ y = 58)
theorem rdPl {I J : PF} (h : FR mRd I J) : FR mPl I J := h.mono (fun x y c => by unfold mRd at c; unfold mPl; omega)
theorem tD_pl {x y : Int} (h : tD x y) : ¬ mPl x y := fun c => by unfold tD at h; unfold mPl at c; omega
theorem MG.pl {t : Int → Int} {n : Int} {s s' : SA} {D I I' : PF} (h : MG t n s D I) (h1 : MSt t n s' I') (g : FR mPl I I') : MG t n s' D I' := ⟨h1, h.2.1.fr g (fun x y c => tD_pl c), h.2.2.1.rows (fun a ha => funext fun i => g a i (fun c => by have := c.1; omega)), h.2.2.2⟩
theorem AgD.wl {D I : PF} (h : AgD D I) (hm : D 339 2 ≤ 10) (x y : Int) : wlT I x y ↔ wlT D x y := by
  have c : I 339 2 = D 339 2 := h 339 2 (by unfold tD; omega)
  have e : ∀ j, 0 ≤ j → j < 20 → I 344 j = D 344 j := fun j j0 j1 => h 344 j (by unfold tD; omega)
  constructor
  · rintro ⟨k, k0, k1, k2, k3⟩
    exact ⟨k, k0, by omega, by rw [← e _ (by omega) (by omega)]; exact k2, by rw [← e _ (by omega) (by omega)]; exact k3⟩
  · rintro ⟨k, k0, k1, k2, k3⟩
    exact ⟨k, k0, by omega, by rw [e _ (by omega) (by omega)]; exact k2, by rw [e _ (by omega) (by omega)]; exact k3⟩
theorem AgD.ps {D I : PF} (h : AgD D I) (x y : Int) : psT I x y ↔ psT D x y := by
  have c : I 339 1 = D 339 1 := h 339 1 (by unfold tD; omega)
  have e : ∀ j, I 343 j = D 343 j := fun j => h 343 j (by unfold tD; omega)
  unfold psT
  simp only [c, e]
theorem numS_r {t : Int → Int} {n lo hi : Int} {f : Int × Int} : numS t n lo hi (.inr f) = .inr f := rfl
theorem plaY_in {t : Int → Int} {n : Int} {D : PF} {s : SA} {q2 : Int × Bool} (h : plaY t n D s = .inl q2) : ∃ q q1, s = .inl q ∧ plaX t n D s = .inl q1 ∧ numS t n 0 (D 341 0 - 1) (.inl q) = .inl q1 ∧ numS t n 0 (D 341 1 - 1) (.inl q1) = .inl q2 := by
  cases s with
  | inr f => cases h
  | inl q =>
    cases hx : plaX t n D (.inl q) with
    | inr f => unfold plaY at h; rw [hx] at h; cases h
    | inl q1 => unfold plaY at h; rw [hx] at h; exact ⟨q, q1, rfl, rfl, hx, h⟩
theorem c_placeTold {X : CX} {I R : PF} {t : Int → Int} {n w : Int} {s : SA} {D : PF} (hs : Shp R) (h : MG t n s D I) (hw : w = 0 ∨ w = 1) :
    CN X 3 mX11_placeTold [(2, 306), (0, w)] I R (fun _ I' R' => MG t n (plaS t n D (w ≠ 0) s) D I' ∧ FR mPl I I' ∧ R' = R ∧ (∀ q', plaS t n D (w ≠ 0) s = .inl q' → I' 306 57 = vN t n s ∧ I' 306 58 = vN t n (plaX t n D s))) := by
  refine callee_b (by decide +kernel) (Nat.le_of_ble_eq_true rfl) rfl ?_
  obtain ⟨⟨g1, g2, g3, g4, g5, g6, g7, g8, -⟩, ⟨-, -, k1, k2, k3, k4⟩, -, -, -, gp, -, gw, -⟩ := h.2.2.2
  have e0 : I 341 0 = D 341 0 := h.2.1 341 0 (by unfold tD; omega)
  refine S_X11_placeTold_0 (d1 := 2) hs (by omega) (c_number hs h.1 (by decide) (by omega)) (fun z I1 R1 p => ?_)
  obtain ⟨z1, z2, m1, f1, rfl, v1⟩ := p
  simp only at z1 z2
  rw [e0] at m1 v1
  have f1' : FR mPl I (u2 I1 306 57 z) := (rdPl f1).tr (FR_u2 ⟨rfl, by decide⟩)
  have m1' : MSt t n (plaX t n D s) (u2 I1 306 57 z) := m1.fr (FR_u2 (P := fun x y => x = 306 ∧ y = 57) ⟨rfl, rfl⟩) (fun x y c => by omega)
  have e1 : (u2 I1 306 57 z) 341 1 = D 341 1 := (f1' 341 1 (fun c => by unfold mPl at c; omega)).trans (h.2.1 341 1 (by unfold tD; omega))
  refine S_X11_placeTold_14 (d1 := 2) hs (by omega) (c_number hs m1' (by decide) (by rw [e1]; omega)) (fun y I2 R2 p => ?_)
  obtain ⟨y1, y2, m2, f2, rfl, v2⟩ := p
  simp only at y1 y2
  rw [e1] at m2 v2
  have f2' : FR mPl I (u2 I2 306 58 y) := (f1'.tr (rdPl f2)).tr (FR_u2 ⟨rfl, by decide⟩)
  have m2' : MSt t n (plaY t n D s) (u2 I2 306 58 y) := m2.fr (FR_u2 (P := fun x y => x = 306 ∧ y = 58) ⟨rfl, rfl⟩) (fun x y c => by omega)
  have h57 : (u2 I2 306 58 y) 306 57 = z := by rw [u2_j (by decide), f2 306 57 (fun c => by unfold mRd at c; omega), u2_at]
  have h58 : (u2 I2 306 58 y) 306 58 = y := u2_at
  have h10 : (u2 I2 306 58 y) 306 10 = I2 306 10 := u2_j (by decide)
  have hG2 : MG t n (plaY t n D s) D (u2 I2 306 58 y) := h.pl m2' f2'
  have stay : ∀ f, plaY t n D s = .inr f → plaS t n D (w ≠ 0) s = .inr f := fun f e => by
    unfold plaS; rw [e]
    by_cases c : plaB t n D (w ≠ 0) s
    · exact cif_t c
    · exact cif_f c
  cases hY : plaY t n D s with
  | inr f =>
    rw [hY] at m2' hG2
    rw [stay f hY]
    refine S_X11_placeTold_31 m2'.r5 (fun _ => ?_) (fun g => absurd g m2'.bad)
    exact S_X11_placeTold_110 ⟨hG2, f2', rfl, fun q' e => by cases e⟩
  | inl q2 =>
    obtain ⟨q, q1, rfl, hX, n1, n2⟩ := plaY_in hY
    rw [hY] at m2' hG2
    obtain ⟨a1, a2, a3, -⟩ := v1 q q1 rfl n1
    obtain ⟨b1, b2, b3, b4⟩ := v2 q1 q2 hX (by rw [hX]; exact n2)
    simp only at a1 a2 a3 b1 b2 b3
    have ezx : vN t n (.inl q) = z := a1.symm
    have eyx : vN t n (plaX t n D (.inl q)) = y := by rw [hX]; exact b1.symm
    have eB : plaB t n D (w ≠ 0) (.inl q) ↔ wlT D z y ∨ psT D z y ∨ (w ≠ 0 ∧ z = D 341 2 ∧ y = D 341 3) := by unfold plaB; rw [ezx, eyx]
    have gd2 : (u2 I2 306 58 y) 339 2 = D 339 2 := hG2.c0 (by decide)
    have gd1 : (u2 I2 306 58 y) 339 1 = D 339 1 := hG2.c0 (by decide)
    have g341 : ∀ j, 0 ≤ j → j < 5 → (u2 I2 306 58 y) 341 j = D 341 j := fun j j0 j1 => hG2.2.1 341 j (by unfold tD; omega)
    have awl := hG2.2.1.wl k4 z y
    have aps := hG2.2.1.ps z y
    have rw1 : ∀ k, 0 ≤ k → k < (u2 I2 306 58 y) 339 2 → inR ((u2 I2 306 58 y) 344 (2 * k)) ∧ inR ((u2 I2 306 58 y) 344 (2 * k + 1)) := fun k k0 k1 => by
      have := gw k k0 (by omega)
      rw [hG2.2.1 344 (2 * k) (by unfold tD; omega), hG2.2.1 344 (2 * k + 1) (by unfold tD; omega)]
      omega
    have rp1 : ∀ k, 0 ≤ k → k < (u2 I2 306 58 y) 339 1 → inR ((u2 I2 306 58 y) 343 (4 * k)) ∧ inR ((u2 I2 306 58 y) 343 (4 * k + 1)) := fun k k0 k1 => by
      have := gp k k0 (by omega)
      rw [hG2.2.1 343 (4 * k) (by unfold tD; omega), hG2.2.1 343 (4 * k + 1) (by unfold tD; omega)]
      omega
    generalize hJ : u2 I2 306 58 y = J at *
    have good : ¬ plaB t n D (w ≠ 0) (.inl q) → PN X 3 mX11_placeTold 110 [] [] J R2 (fun _ I' R' => MG t n (plaS t n D (w ≠ 0) (.inl q)) D I' ∧ FR mPl I I' ∧ R' = R2 ∧ (∀ q', plaS t n D (w ≠ 0) (.inl q) = .inl q' → I' 306 57 = vN t n (.inl q) ∧ I' 306 58 = vN t n (plaX t n D (.inl q)))) := fun c => by
      have e : plaS t n D (w ≠ 0) (.inl q) = .inl q2 := by unfold plaS; rw [cif_f c, hY]
      rw [e]
      exact S_X11_placeTold_110 ⟨hG2, f2', rfl, fun q' _ => ⟨h57.trans ezx.symm, h58.trans eyx.symm⟩⟩
    have bad : plaB t n D (w ≠ 0) (.inl q) → PN X 3 mX11_placeTold 101 [(2, 306)] [] J R2 (fun _ I' R' => MG t n (plaS t n D (w ≠ 0) (.inl q)) D I' ∧ FR mPl I I' ∧ R' = R2 ∧ (∀ q', plaS t n D (w ≠ 0) (.inl q) = .inl q' → I' 306 57 = vN t n (.inl q) ∧ I' 306 58 = vN t n (plaX t n D (.inl q)))) := fun c => by
      have e : plaS t n D (w ≠ 0) (.inl q) = .inr (2, skp t n q1.1) := by unfold plaS; rw [cif_t c, hY, hX]; rfl
      rw [e]
      refine S_X11_placeTold_101 (d1 := 1) (by omega) (c_failA m2' (by decide)) (fun z3 I3 R3 p => ?_)
      obtain ⟨c1, c2, rfl⟩ := p
      rw [h10, b4] at c1
      exact S_X11_placeTold_110 ⟨hG2.rd c1 c2, f2'.tr (rdPl c2), rfl, fun q' e => by cases e⟩
    refine S_X11_placeTold_31 (by rw [hJ]; exact m2'.r5) (fun g => absurd m2'.ok (by rw [← hJ]; exact g)) (fun _ => ?_)
    rw [hJ]
    refine S_X11_placeTold_41 (d1 := 0) (by omega) (c_isWallTold hs (by omega) rw1 (by rw [h57]; omega) (by rw [h58]; omega)) (fun v I3 R3 p => ?_)
    obtain ⟨(hv : v = _), rfl, rfl⟩ := p
    rw [h57, h58] at hv
    have br := bi_r (wlT I3 z y)
    refine S_X11_placeTold_53 (by omega) (fun g => bad (eB.mpr (Or.inl (awl.mp (bi_1 (by rw [← hv]; exact g)))))) (fun g => ?_)
    have nw : ¬ wlT D z y := fun c => bi_0 (hv.symm.trans g) (awl.mpr c)
    refine S_X11_placeTold_56 (d1 := 0) (by omega) (c_isPersonTold hs (by omega) rp1 (by rw [h57]; omega) (by rw [h58]; omega)) (fun v I4 R4 p => ?_)
    obtain ⟨(hv : v = _), rfl, rfl⟩ := p
    rw [h57, h58] at hv
    have br := bi_r (psT I4 z y)
    refine S_X11_placeTold_68 (by omega) (fun g => bad (eB.mpr (Or.inr (Or.inl (aps.mp (bi_1 (by rw [← hv]; exact g))))))) (fun g => ?_)
    have np : ¬ psT D z y := fun c => bi_0 (hv.symm.trans g) (aps.mpr c)
    have n2' := g341 2 (by decide) (by decide)
    have n3' := g341 3 (by decide) (by decide)
    refine S_X11_placeTold_71 (by omega) (fun gw => good (fun c => ?_)) (fun gw => ?_)
    · rcases eB.mp c with c | c | c
      · exact nw c
      · exact np c
      · exact c.1 gw
    refine S_X11_placeTold_75 hs (by omega) (by omega) (fun g5 => good (fun c => ?_)) (fun g5 => ?_)
    · rcases eB.mp c with c | c | c
      · exact nw c
      · exact np c
      · omega
    refine S_X11_placeTold_88 hs (by omega) (by omega) (fun g6 => good (fun c => ?_)) (fun g6 => bad (eB.mpr (Or.inr (Or.inr ⟨gw, by omega, by omega⟩))))
    rcases eB.mp c with c | c | c
    · exact nw c
    · exact np c
    · omega
