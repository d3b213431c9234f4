/-! ===== on ===== -/
def perOK (D : PF) (t : Int → Int) (q : Int) : Prop := inQ D (t (4 + 6 * q), t (4 + 6 * q + 1)) ∧ ¬ wlT D (t (4 + 6 * q)) (t (4 + 6 * q + 1)) ∧ (t (4 + 6 * q + 2) ≤ 8 ∧ t (4 + 6 * q + 3) ≤ 3) ∧ 256 * t (4 + 6 * q + 4) + t (4 + 6 * q + 5) ≤ 999 ∧ ∀ j, 0 ≤ j → j < q → ¬ (t (4 + 6 * j) = t (4 + 6 * q) ∧ t (4 + 6 * j + 1) = t (4 + 6 * q + 1))
def imOK (D : PF) (t : Int → Int) (len : Int) : Prop := len = 5 + 6 * D 339 1 ∧ t (len - 1) = slF t (len - 1).toNat ∧ 256 * t 0 + t 1 ≤ 999 ∧ t 2 ≤ D 339 1 ∧ t 3 ≤ 99 ∧ (t 2 = 0 ↔ t 3 = 0) ∧ ∀ q, 0 ≤ q → q < D 339 1 → perOK D t q
def perC (t : Int → Int) (q : Int) (I : PF) : Prop := I (121 + q) 0 = t (4 + 6 * q) ∧ I (121 + q) 1 = t (4 + 6 * q + 1) ∧ I (121 + q) 5 = t (4 + 6 * q + 2) ∧ I (121 + q) 6 = t (4 + 6 * q + 3) ∧ I (121 + q) 7 = 256 * t (4 + 6 * q + 4) + t (4 + 6 * q + 5)
theorem c_readOne {X : CX} {I R D : PF} {p o q : Int} {t : Int → Int} (hs : Shp R) (hp : Plc R p o) (hG : GD D) (hQ : QR D p I) (ht : I 65 = t) (hr : ∀ j, 0 ≤ j → j < 1600 → 0 ≤ t j ∧ t j ≤ 255) (hq : 0 ≤ q ∧ q < 6) (hj : ∀ j, 0 ≤ j → j < q → perC t j I) :
    CN X 2 mX10_readPerson [(2, 64), (0, q), (0, 4 + 6 * q)] I R (fun v I' R' => v.2 = bi (perOK D t q) ∧ (perOK D t q → perC t q I') ∧ FR (fun x y => x = 121 + q ∧ (y = 0 ∨ y = 1 ∨ y = 5 ∨ y = 6 ∨ y = 7)) I I' ∧ R' = R) := by
  refine callee_b (by decide +kernel) (Nat.le_of_ble_eq_true rfl) rfl ?_
  have kp := (plc_k hp).1
  have r0 := hr (4 + 6 * q) (by omega) (by omega)
  have r1 := hr (4 + 6 * q + 1) (by omega) (by omega)
  have r2 := hr (4 + 6 * q + 2) (by omega) (by omega)
  have r3 := hr (4 + 6 * q + 3) (by omega) (by omega)
  have r4 := hr (4 + 6 * q + 4) (by omega) (by omega)
  have r5 := hr (4 + 6 * q + 5) (by omega) (by omega)
  have no : ¬ perOK D t q → ∀ J : PF, FR (fun x y => x = 121 + q ∧ (y = 0 ∨ y = 1 ∨ y = 5 ∨ y = 6 ∨ y = 7)) I J → ((0, 0) : PV).2 = bi (perOK D t q) ∧ (perOK D t q → perC t q J) ∧ FR (fun x y => x = 121 + q ∧ (y = 0 ∨ y = 1 ∨ y = 5 ∨ y = 6 ∨ y = 7)) I J ∧ R = R := fun c J f => ⟨(bi_f c).symm, fun k => absurd k c, f, rfl⟩
  have S := @S_X10_readPerson_0 X 2 0 q (4 + 6 * q) p I R
  rw [ht] at S
  refine S hs (by omega) (by omega) (by omega) (by omega) (by omega) (by omega) hp.1 (by omega) (c_within' kp hG hQ (by unfold inR; omega) (by unfold inR; omega)) kp (fun z I1 R1 r => ?_)
  obtain ⟨(hz : z = _), rfl, rfl⟩ := r
  have b := bi_r (inQ D (t (4 + 6 * q), t (4 + 6 * q + 1)))
  refine S_X10_readPerson_70 (by omega) (fun g => S_X10_readPerson_96 (no (fun c => bi_0 (hz.symm.trans g) c.1) _ FR.rf)) (fun g => ?_)
  have c1 := bi_1 (c := inQ D (t (4 + 6 * q), t (4 + 6 * q + 1))) (by rw [← hz]; exact g)
  refine S_X10_readPerson_73 (d1 := 1) hp.1 (by omega) (c_walled' hs kp hG hQ (by unfold inR; omega) (by unfold inR; omega)) kp (fun z2 I2 R2 r => ?_)
  obtain ⟨(hz2 : z2 = _), rfl, rfl⟩ := r
  have b2 := bi_r (inQ D (t (4 + 6 * q), t (4 + 6 * q + 1)) ∧ wlT D (t (4 + 6 * q)) (t (4 + 6 * q + 1)))
  refine S_X10_readPerson_83 (by omega) (fun g2 => S_X10_readPerson_96 (no (fun c => c.2.1 (bi_1 (c := inQ D (t (4 + 6 * q), t (4 + 6 * q + 1)) ∧ wlT D (t (4 + 6 * q)) (t (4 + 6 * q + 1))) (by rw [← hz2]; exact g2)).2) _ FR.rf)) (fun g2 => ?_)
  have c2 : ¬ wlT D (t (4 + 6 * q)) (t (4 + 6 * q + 1)) := fun k => bi_0 (hz2.symm.trans g2) ⟨c1, k⟩
  refine S_X10_readPerson_86 (d1 := 0) (by omega) (c_isThrow (by unfold inR; omega) (by unfold inR; omega)) (fun z3 I3 R3 r => ?_)
  obtain ⟨(hz3 : z3 = _), rfl, rfl⟩ := r
  have b3 := bi_r (0 ≤ t (4 + 6 * q + 2) ∧ t (4 + 6 * q + 2) < 9 ∧ 0 ≤ t (4 + 6 * q + 3) ∧ t (4 + 6 * q + 3) ≤ 3)
  refine S_X10_readPerson_93 (by omega) (fun g3 => ?_) (fun g3 => S_X10_readPerson_96 (no (fun c => bi_0 (hz3.symm.trans g3) ⟨r2.1, by have := c.2.2.1.1; omega, r3.1, c.2.2.1.2⟩) _ FR.rf))
  have c3 := bi_1 (c := 0 ≤ t (4 + 6 * q + 2) ∧ t (4 + 6 * q + 2) < 9 ∧ 0 ≤ t (4 + 6 * q + 3) ∧ t (4 + 6 * q + 3) ≤ 3) (by rw [← hz3]; exact g3)
  refine S_X10_readPerson_98 ?_
  have lp : ∀ (f : Nat) (k : Int), (q - k).toNat < f → 0 ≤ k → k ≤ q → (∀ j, 0 ≤ j → j < k → ¬ (t (4 + 6 * j) = t (4 + 6 * q) ∧ t (4 + 6 * j + 1) = t (4 + 6 * q + 1))) → PN X 2 mX10_readPerson 101 [(2, 64), (0, q), (9, 0), (0, t (4 + 6 * q)), (0, t (4 + 6 * q + 1)), (0, t (4 + 6 * q + 2)), (0, t (4 + 6 * q + 3)), (0, 256 * t (4 + 6 * q + 4) + t (4 + 6 * q + 5)), (0, k)] [] I3 R3 (fun v I' R' => v.2 = bi (perOK D t q) ∧ (perOK D t q → perC t q I') ∧ FR (fun x y => x = 121 + q ∧ (y = 0 ∨ y = 1 ∨ y = 5 ∨ y = 6 ∨ y = 7)) I3 I' ∧ R' = R3) := by
    intro f
    induction f with
    | zero => intro k h; exact absurd h (Nat.not_lt_zero _)
    | succ f ih =>
      intro k hf k0 k1 hn
      refine S_X10_readPerson_101 (by omega) (by omega) (fun g4 => ?_) (fun g4 => ?_)
      · refine S_X10_readPerson_130 (d1 := 0) hs (by omega) (callee_b (by decide +kernel) (Nat.le_of_ble_eq_true rfl) rfl (S_X8_put_0 (Q := fun _ I' R' => I' = u2 (u2 I3 (119 + 2 + q) 0 (t (4 + 6 * q))) (119 + 2 + q) 1 (t (4 + 6 * q + 1)) ∧ R' = R3) hs kM119 hq ⟨rfl, rfl⟩)) (fun z5 I5 R5 r => ?_)
        obtain ⟨rfl, rfl⟩ := r
        have e121 : (119 : Int) + 2 + q = 121 + q := by omega
        rw [e121]
        have S2 := @S_X10_readPerson_141 X 2 q (t (4 + 6 * q + 2)) (t (4 + 6 * q + 3)) (256 * t (4 + 6 * q + 4) + t (4 + 6 * q + 5)) (u2 (u2 I3 (121 + q) 0 (t (4 + 6 * q))) (121 + q) 1 (t (4 + 6 * q + 1))) R5
        rw [e121] at S2
        have ff : FR (fun x y => x = 121 + q ∧ (y = 0 ∨ y = 1 ∨ y = 5 ∨ y = 6 ∨ y = 7)) I3 (u2 (u2 (u2 (u2 (u2 I3 (121 + q) 0 (t (4 + 6 * q))) (121 + q) 1 (t (4 + 6 * q + 1))) (121 + q) 5 (t (4 + 6 * q + 2))) (121 + q) 6 (t (4 + 6 * q + 3))) (121 + q) 7 (256 * t (4 + 6 * q + 4) + t (4 + 6 * q + 5))) :=
          ((((FR_u2 (P := fun x y => x = 121 + q ∧ (y = 0 ∨ y = 1 ∨ y = 5 ∨ y = 6 ∨ y = 7)) ⟨rfl, by decide⟩).tr (FR_u2 ⟨rfl, by decide⟩)).tr (FR_u2 ⟨rfl, by decide⟩)).tr (FR_u2 ⟨rfl, by decide⟩)).tr (FR_u2 ⟨rfl, by decide⟩)
        refine S2 hs hq (by omega) (fun g5 => S_X10_readPerson_194 (S_X10_readPerson_195 (by decide) (no (fun c => by have := c.2.2.2.1; omega) _ ff))) (fun g5 => S_X10_readPerson_190 (S_X10_readPerson_195 (by decide) ⟨(bi_t ⟨c1, c2, ⟨by omega, c3.2.2.2⟩, g5, fun j j0 j1 => hn j j0 (by omega)⟩).symm, fun _ => ⟨?_, ?_, ?_, ?_, ?_⟩, ff, rfl⟩))
        · rw [u2_j (by decide), u2_j (by decide), u2_j (by decide), u2_j (by decide), u2_at]
        · rw [u2_j (by decide), u2_j (by decide), u2_j (by decide), u2_at]
        · rw [u2_j (by decide), u2_j (by decide), u2_at]
        · rw [u2_j (by decide), u2_at]
        · rw [u2_at]
      · obtain ⟨p0, p1, -⟩ := hj k k0 g4
        have s0 := hr (4 + 6 * k) (by omega) (by omega)
        have s1 := hr (4 + 6 * k + 1) (by omega) (by omega)
        refine S_X10_readPerson_107 (d1 := 0) hs (by omega) (c_standsAt hs kM119 ⟨k0, by omega⟩ (by rw [show (119 : Int) + 2 + k = 121 + k by omega, p0]; unfold inR; omega) (by rw [show (119 : Int) + 2 + k = 121 + k by omega, p1]; unfold inR; omega) (by unfold inR; omega) (by unfold inR; omega)) (fun z5 I5 R5 r => ?_)
        obtain ⟨(hz5 : z5 = _), rfl, rfl⟩ := r
        rw [show (119 : Int) + 2 + k = 121 + k by omega, p0, p1] at hz5
        have b5 := bi_r (t (4 + 6 * k) = t (4 + 6 * q) ∧ t (4 + 6 * k + 1) = t (4 + 6 * q + 1))
        refine S_X10_readPerson_119 (by omega) (fun g5 => S_X10_readPerson_124 (ih (k + 1) (by omega) (by omega) (by omega) (fun j j0 j1 => ?_))) (fun g5 => S_X10_readPerson_122 (no (fun c => c.2.2.2.2 k k0 g4 (bi_1 (by rw [← hz5]; exact g5))) _ FR.rf))
        by_cases e : j = k
        · rw [e]; exact bi_0 (hz5.symm.trans g5)
        · exact hn j j0 (by omega)
  exact lp _ 0 (Nat.lt_succ_self _) (by decide) hq.1 (fun j j0 j1 => by omega)
/-- the other state tells an image -/
def StI (D : PF) (t : Int → Int) (I0 I : PF) : Prop := (I 119 0 = 256 * t 0 + t 1 ∧ I 119 1 = t 2 - 1 ∧ I 119 2 = t 3 ∧ I 119 3 = D 339 1) ∧ ∀ q, 0 ≤ q → q < D 339 1 → perC t q I ∧ I (121 + q) 2 = I0 342 (24 + 4 * q) ∧ I (121 + q) 3 = I0 342 (25 + 4 * q) ∧ I (121 + q) 4 = I0 342 (26 + 4 * q)
theorem c_readImage {X : CX} {I R D : PF} {p o len : Int} {t : Int → Int} (hs : Shp R) (hp : Plc R p o) (hG : GD D) (hQ : QR D p I) (hS : StC D I 111 I) (ht : I 65 = t) (hr : ∀ j, 0 ≤ j → j < 1600 → 0 ≤ t j ∧ t j ≤ 255) (hl : inR len) :
    CN X 3 mX10_readImage [(2, 64), (0, len)] I R (fun v I' R' => v.2 = bi (imOK D t len) ∧ (imOK D t len → StI D t I I') ∧ FR (fun x y => 119 ≤ x ∧ x ≤ 126) I I' ∧ R' = R) := by
  refine callee_b (by decide +kernel) (Nat.le_of_ble_eq_true rfl) rfl ?_
  have hD := hG.2.1
  have kp := (plc_k hp).1
  have hpp := sq_o kp
  have e3 : I 111 3 = D 339 1 := hS.1.2.2.2
  have n65 : (ln MF 65 : Int) = 1600 := nM65
  have no : ¬ imOK D t len → ∀ J : PF, FR (fun x y => 119 ≤ x ∧ x ≤ 126) I J → ((0, 0) : PV).2 = bi (imOK D t len) ∧ (imOK D t len → StI D t I J) ∧ FR (fun x y => 119 ≤ x ∧ x ≤ 126) I J ∧ R = R := fun c J f => ⟨(bi_f c).symm, fun k => absurd k c, f, rfl⟩
  refine S_X10_readImage_0 hs hl (by omega) (fun g => S_X10_readImage_37 (no (fun c => g (by rw [e3]; exact c.1)) _ FR.rf)) (fun g => ?_)
  rw [e3] at g
  have rl := hr (len - 1) (by omega) (by omega)
  have sr := slF_r t (len - 1).toNat
  refine S_X10_readImage_16 (d1 := 0) hs (by omega) (by omega) (c_sealOf kM65 (by omega) (by omega) (fun k k0 k1 => by rw [ht]; exact hr k k0 (by omega))) (fun z I1 R1 r => ?_)
  obtain ⟨(hz : z = _), rfl, rfl⟩ := r
  rw [ht] at hz
  rw [ht, hz]
  refine S_X10_readImage_34 (by omega) (by omega) (fun g2 => ?_) (fun g2 => S_X10_readImage_37 (no (fun c => g2 c.2.1) _ FR.rf))
  refine S_X10_readImage_39 (d1 := 1) hs (by omega) (c_copyFrom hs kM119 kM111 (by decide) (by omega)) (fun z3 J R3 r => ?_)
  obtain ⟨x0, x1, x2, x3, x4, x5, rfl⟩ := r
  have fJ : FR (fun x y => 119 ≤ x ∧ x ≤ 126) I1 J := x5.mono (fun x y c => by unfold stC at c; omega)
  have j65 : J 65 = t := (funext fun y => fJ _ _ (by omega)).trans ht
  have h119 : (65 : Int) ≠ 119 := by decide
  have S := @S_X10_readImage_50 X 3 J R3
  simp only [u2_o h119] at S
  rw [j65] at S
  have v0 : (u2 (u2 (u2 J 119 0 (256 * t 0 + t 1)) 119 1 (t 2 - 1)) 119 2 (t 3)) 119 0 = 256 * t 0 + t 1 := by rw [u2_j (by decide), u2_j (by decide), u2_at]
  have v1 : (u2 (u2 (u2 J 119 0 (256 * t 0 + t 1)) 119 1 (t 2 - 1)) 119 2 (t 3)) 119 1 = t 2 - 1 := by rw [u2_j (by decide), u2_at]
  have v2 : (u2 (u2 (u2 J 119 0 (256 * t 0 + t 1)) 119 1 (t 2 - 1)) 119 2 (t 3)) 119 2 = t 3 := by rw [u2_at]
  have v3 : (u2 (u2 (u2 J 119 0 (256 * t 0 + t 1)) 119 1 (t 2 - 1)) 119 2 (t 3)) 119 3 = D 339 1 := by rw [u2_j (by decide), u2_j (by decide), u2_j (by decide), x3, e3]
  have ff : FR (fun x y => 119 ≤ x ∧ x ≤ 126) J (u2 (u2 (u2 J 119 0 (256 * t 0 + t 1)) 119 1 (t 2 - 1)) 119 2 (t 3)) := ((FR_u2 (P := fun x y => 119 ≤ x ∧ x ≤ 126) ⟨by decide, by decide⟩).tr (FR_u2 ⟨by decide, by decide⟩)).tr (FR_u2 ⟨by decide, by decide⟩)
  have vp : ∀ q y, 0 ≤ q → q < D 339 1 → 0 ≤ y → y < 8 → (u2 (u2 (u2 J 119 0 (256 * t 0 + t 1)) 119 1 (t 2 - 1)) 119 2 (t 3)) (121 + q) y = I1 (113 + q) y := fun q y q0 q1 y0 y1 => by
    rw [u2_o (by omega), u2_o (by omega), u2_o (by omega), show (121 : Int) + q = 119 + 2 + q by omega, x4 q y q0 (by omega) y0 y1, show (111 : Int) + 2 + q = 113 + q by omega]
  have fA := fJ.tr ff
  generalize hA : u2 (u2 (u2 J 119 0 (256 * t 0 + t 1)) 119 1 (t 2 - 1)) 119 2 (t 3) = A at *
  have t0 := hr 0 (by decide) (by decide)
  have t1 := hr 1 (by decide) (by decide)
  have t2 := hr 2 (by decide) (by decide)
  have t3 := hr 3 (by decide) (by decide)
  refine S hs (by rw [v0]; omega) (fun g3 => S_X10_readImage_144 (no (fun c => by have := c.2.2.1; omega) _ fA)) (fun g3 => ?_)
  rw [v0] at g3
  refine S_X10_readImage_115 hs (by rw [v1]; omega) (by rw [v3]; omega) (fun g4 => S_X10_readImage_144 (no (fun c => by have := c.2.2.2.1; omega) _ fA)) (fun g4 => ?_)
  rw [v1, v3] at g4
  refine S_X10_readImage_132 hs (by rw [v2]; omega) (fun g5 => ?_) (fun g5 => S_X10_readImage_144 (no (fun c => by have := c.2.2.2.2.1; omega) _ fA))
  rw [v2] at g5
  have lp : (t 2 = 0 ↔ t 3 = 0) → ∀ (f : Nat) (k : Int) (B : PF), (D 339 1 - k).toNat < f → 0 ≤ k → k ≤ D 339 1 → (∀ j, 0 ≤ j → j < k → perOK D t j ∧ perC t j B) → (∀ j, 0 ≤ j → j < D 339 1 → B (121 + j) 2 = I1 342 (24 + 4 * j) ∧ B (121 + j) 3 = I1 342 (25 + 4 * j) ∧ B (121 + j) 4 = I1 342 (26 + 4 * j)) → (B 119 0 = 256 * t 0 + t 1 ∧ B 119 1 = t 2 - 1 ∧ B 119 2 = t 3 ∧ B 119 3 = D 339 1) → FR (fun x y => 119 ≤ x ∧ x ≤ 126) I1 B →
      PN X 3 mX10_readImage 184 [(2, 64), (9, 0), (0, k)] [] B R3 (fun v I' R' => v.2 = bi (imOK D t len) ∧ (imOK D t len → StI D t I1 I') ∧ FR (fun x y => 119 ≤ x ∧ x ≤ 126) I1 I' ∧ R' = R3) := by
    intro hz2 f
    induction f with
    | zero => intro k B h; exact absurd h (Nat.not_lt_zero _)
    | succ f ih =>
      intro k B hf k0 k1 hj h2 hh fB
      refine S_X10_readImage_184 hs (by omega) (by omega) (fun g6 => ?_) (fun g6 => ?_)
      · exact S_X10_readImage_217 ⟨(bi_t ⟨g, g2, g3, by omega, g5, hz2, fun q q0 q1 => (hj q q0 (by omega)).1⟩).symm, fun _ => ⟨hh, fun q q0 q1 => ⟨(hj q q0 (by omega)).2, h2 q q0 q1⟩⟩, fB, rfl⟩
      have e65 : B 65 = t := (funext fun y => fB _ _ (by omega)).trans ht
      refine S_X10_readImage_195 (d1 := 2) (by omega) (c_readOne hs hp hG (hQ.f2 (fun x a b _ _ => funext fun y => fB _ _ (by omega)) hG) e65 hr ⟨k0, by omega⟩ (fun j j0 j1 => (hj j j0 j1).2)) (fun z7 B7 R7 r => ?_)
      obtain ⟨(hz7 : z7 = _), q2, q3, rfl⟩ := r
      have b7 := bi_r (perOK D t k)
      have f7 := fB.tr (q3.mono (fun x y c => show 119 ≤ x ∧ x ≤ 126 by omega))
      have n7 : ∀ x y, ¬ (x = 121 + k ∧ (y = 0 ∨ y = 1 ∨ y = 5 ∨ y = 6 ∨ y = 7)) → B7 x y = B x y := q3
      refine S_X10_readImage_206 (by omega) (fun g7 => S_X10_readImage_211 ?_) (fun g7 => S_X10_readImage_209 (no (fun c => bi_0 (hz7.symm.trans g7) (c.2.2.2.2.2.2 k k0 (by omega))) _ f7))
      have ok := bi_1 (c := perOK D t k) (by rw [← hz7]; exact g7)
      refine ih (k + 1) B7 (by omega) (by omega) (by omega) (fun j j0 j1 => ?_) (fun j j0 j1 => ?_) ?_ f7
      · by_cases e : j = k
        · rw [e]; exact ⟨ok, q2 ok⟩
        · have a := hj j j0 (by omega)
          refine ⟨a.1, ?_⟩
          unfold perC
          rw [n7 _ 0 (by omega), n7 _ 1 (by omega), n7 _ 5 (by omega), n7 _ 6 (by omega), n7 _ 7 (by omega)]
          exact a.2
      · rw [n7 _ 2 (by omega), n7 _ 3 (by omega), n7 _ 4 (by omega)]; exact h2 j j0 j1
      · rw [n7 _ 0 (by omega), n7 _ 1 (by omega), n7 _ 2 (by omega), n7 _ 3 (by omega)]; exact hh
  have go : (t 2 = 0 ↔ t 3 = 0) → PN X 3 mX10_readImage 182 [(2, 64)] [] A R3 (fun v I' R' => v.2 = bi (imOK D t len) ∧ (imOK D t len → StI D t I1 I') ∧ FR (fun x y => 119 ≤ x ∧ x ≤ 126) I1 I' ∧ R' = R3) := fun hz2 => by
    refine S_X10_readImage_182 (lp hz2 _ 0 A (Nat.lt_succ_self _) (by decide) (by omega) (fun j j0 j1 => by omega) (fun j j0 j1 => ?_) ⟨v0, v1, v2, v3⟩ fA)
    rw [vp j 2 j0 j1 (by decide) (by decide), vp j 3 j0 j1 (by decide) (by decide), vp j 4 j0 j1 (by decide) (by decide)]
    have := hS.2 j j0 j1
    rw [show (111 : Int) + 2 + j = 113 + j by omega] at this
    exact ⟨this.2.2.1, this.2.2.2.1, this.2.2.2.2.1⟩
  have fin : ∀ a b : Int, (a = 1 ∧ t 3 = 0 ∨ a = 0 ∧ t 3 ≠ 0) → (b = 1 ∧ t 2 = 0 ∨ b = 0 ∧ t 2 ≠ 0) → PN X 3 mX10_readImage 177 [(2, 64)] [(0, b), (0, a)] A R3 (fun v I' R' => v.2 = bi (imOK D t len) ∧ (imOK D t len → StI D t I1 I') ∧ FR (fun x y => 119 ≤ x ∧ x ≤ 126) I1 I' ∧ R' = R3) := fun a b ha hb => by
    refine S_X10_readImage_177 (by omega) (by omega) (fun g8 => go ⟨fun c => by omega, fun c => by omega⟩) (fun g8 => S_X10_readImage_180 (no (fun c => ?_) _ fA))
    have c1 := c.2.2.2.2.2.1
    rcases ha with ⟨a1, a2⟩ | ⟨a1, a2⟩
    · have := c1.mpr a2; omega
    · have : t 2 ≠ 0 := fun k => a2 (c1.mp k)
      omega
  have two : ∀ a : Int, (a = 1 ∧ t 3 = 0 ∨ a = 0 ∧ t 3 ≠ 0) → PN X 3 mX10_readImage 161 [(2, 64)] [(0, a)] A R3 (fun v I' R' => v.2 = bi (imOK D t len) ∧ (imOK D t len → StI D t I1 I') ∧ FR (fun x y => 119 ≤ x ∧ x ≤ 126) I1 I' ∧ R' = R3) := fun a ha =>
    S_X10_readImage_161 hs (by rw [v1]; omega) (fun g7 => S_X10_readImage_176 (fin a 0 ha (Or.inr ⟨rfl, fun c => g7 (by rw [v1]; omega)⟩))) (fun g7 => S_X10_readImage_172 (fin a 1 ha (Or.inl ⟨rfl, by rw [v1] at g7; omega⟩)))
  exact S_X10_readImage_146 hs (by rw [v2]; omega) (fun g6 => S_X10_readImage_160 (two 0 (Or.inr ⟨rfl, fun c => g6 (by rw [v2]; exact c)⟩))) (fun g6 => S_X10_readImage_156 (two 1 (Or.inl ⟨rfl, by rw [v2] at g6; exact g6⟩)))
