/-! ===== on: the model, both ===== -/
theorem c_isPersonHere {X : CX} {I R D : PF} {q : Int} {t : Int → Int} (hs : Shp R) (hT : ST D I) (hG : GD D) (ht : I 307 = t) (hr : ∀ j, 0 ≤ j → j < 1600 → 0 ≤ t j ∧ t j ≤ 255) (hq : 0 ≤ q ∧ q < 6) :
    CN X 3 mX11_isPersonHere [(2, 306), (0, q)] I R (fun v I' R' => v.2 = bi (perOK D t q) ∧ I' = I ∧ R' = R) := by
  refine callee_b (by decide +kernel) (Nat.le_of_ble_eq_true rfl) rfl ?_
  have r0 := hr (4 + 6 * q) (by omega) (by omega)
  have r1 := hr (4 + 6 * q + 1) (by omega) (by omega)
  have r2 := hr (4 + 6 * q + 2) (by omega) (by omega)
  have r3 := hr (4 + 6 * q + 3) (by omega) (by omega)
  have r4 := hr (4 + 6 * q + 4) (by omega) (by omega)
  have r5 := hr (4 + 6 * q + 5) (by omega) (by omega)
  have no : ¬ perOK D t q → PN X 3 mX11_isPersonHere 101 [] [] I R (fun v I' R' => v.2 = bi (perOK D t q) ∧ I' = I ∧ R' = R) := fun c => S_X11_isPersonHere_101 ⟨(bi_f c).symm, rfl, rfl⟩
  refine S_X11_isPersonHere_0 (d1 := 2) hs (by omega) (by omega) (by omega) (by rw [ht]; exact c_isInside hs hT.sq hG (by unfold inR; omega) (by unfold inR; omega)) (fun z I1 R1 r => ?_)
  obtain ⟨(hz : z = _), rfl, rfl⟩ := r
  have b := bi_r (inQ D (t (4 + 6 * q), t (4 + 6 * q + 1)))
  refine S_X11_isPersonHere_25 (by omega) (fun g => no (fun c => bi_0 (hz.symm.trans g) c.1)) (fun g => ?_)
  have c1 := bi_1 (c := inQ D (t (4 + 6 * q), t (4 + 6 * q + 1))) (by rw [← hz]; exact g)
  refine S_X11_isPersonHere_28 (d1 := 0) hs (by omega) (by omega) (by omega) (by rw [ht]; exact c_isWall hs hT.sq hG (by unfold inR; omega) (by unfold inR; omega)) (fun z2 I2 R2 r => ?_)
  obtain ⟨(hz2 : z2 = _), rfl, rfl⟩ := r
  have b2 := bi_r (wlT D (t (4 + 6 * q)) (t (4 + 6 * q + 1)))
  refine S_X11_isPersonHere_46 (by omega) (fun g2 => no (fun c => c.2.1 (bi_1 (c := wlT D (t (4 + 6 * q)) (t (4 + 6 * q + 1))) (by rw [← hz2]; exact g2)))) (fun g2 => ?_)
  have c2 := bi_0 (c := wlT D (t (4 + 6 * q)) (t (4 + 6 * q + 1))) (hz2.symm.trans g2)
  refine S_X11_isPersonHere_49 hs (by omega) (by rw [ht]; omega) (fun g3 => no (fun c => by rw [ht] at g3; have := c.2.2.1.1; omega)) (fun g3 => ?_)
  rw [ht] at g3
  refine S_X11_isPersonHere_62 hs (by omega) (by rw [ht]; omega) (fun g4 => no (fun c => by rw [ht] at g4; have := c.2.2.1.2; omega)) (fun g4 => ?_)
  rw [ht] at g4
  refine S_X11_isPersonHere_74 hs (by omega) (by omega) (by rw [ht]; omega) (fun g5 => S_X11_isPersonHere_103 ?_) (fun g5 => no (fun c => by rw [ht] at g5; have := c.2.2.2.1; omega))
  rw [ht] at g5
  have lp : ∀ (f : Nat) (k : Int), (q - k).toNat < f → 0 ≤ k → k ≤ q → (∀ j, 0 ≤ j → j < k → ¬ (t (4 + 6 * j) = t (4 + 6 * q) ∧ t (4 + 6 * j + 1) = t (4 + 6 * q + 1))) → PN X 3 mX11_isPersonHere 105 [(2, 306), (9, 0), (0, 4 + 6 * q), (0, 4 + 6 * k)] [] I2 R2 (fun v I' R' => v.2 = bi (perOK D t q) ∧ I' = I2 ∧ R' = R2) := by
    intro f
    induction f with
    | zero => intro k h; exact absurd h (Nat.not_lt_zero _)
    | succ f ih =>
      intro k hf k0 k1 hn
      refine S_X11_isPersonHere_105 (by omega) (by omega) (fun g6 => ?_) (fun g6 => ?_)
      · exact S_X11_isPersonHere_152 ⟨(bi_t ⟨c1, c2, ⟨g3, g4⟩, g5, fun j j0 j1 => hn j j0 (by omega)⟩).symm, rfl, rfl⟩
      have s0 := hr (4 + 6 * k) (by omega) (by omega)
      have s1 := hr (4 + 6 * k + 1) (by omega) (by omega)
      have nx : ¬ (t (4 + 6 * k) = t (4 + 6 * q) ∧ t (4 + 6 * k + 1) = t (4 + 6 * q + 1)) → PN X 3 mX11_isPersonHere 146 [(2, 306), (9, 0), (0, 4 + 6 * q), (0, 4 + 6 * k)] [] I2 R2 (fun v I' R' => v.2 = bi (perOK D t q) ∧ I' = I2 ∧ R' = R2) := fun c => by
        refine S_X11_isPersonHere_146 ?_
        rw [show 4 + 6 * k + 6 = 4 + 6 * (k + 1) by omega]
        refine ih (k + 1) (by omega) (by omega) (by omega) (fun j j0 j1 => ?_)
        by_cases e : j = k
        · rw [e]; exact c
        · exact hn j j0 (by omega)
      refine S_X11_isPersonHere_110 hs (by omega) (by omega) (by rw [ht]; omega) (by rw [ht]; omega) (fun g7 => nx (fun c => g7 (by rw [ht]; exact c.1))) (fun g7 => ?_)
      refine S_X11_isPersonHere_125 hs (by omega) (by omega) (by rw [ht]; omega) (by rw [ht]; omega) (fun g8 => nx (fun c => g8 (by rw [ht]; exact c.2))) (fun g8 => S_X11_isPersonHere_144 ⟨(bi_f (fun c => c.2.2.2.2 k k0 (by omega) ⟨?_, ?_⟩)).symm, rfl, rfl⟩)
      · rw [← ht]; exact g7
      · rw [← ht]; exact g8
  exact lp _ 0 (Nat.lt_succ_self _) (by decide) hq.1 (fun j j0 j1 => by omega)
theorem c_isImage {X : CX} {I R D : PF} {len : Int} {t : Int → Int} (hs : Shp R) (hT : ST D I) (hG : GD D) (ht : I 307 = t) (hr : ∀ j, 0 ≤ j → j < 1600 → 0 ≤ t j ∧ t j ≤ 255) (hl : inR len) :
    CN X 4 mX11_isImage [(2, 306), (0, len)] I R (fun v I' R' => v.2 = bi (imOK D t len) ∧ I' = I ∧ R' = R) := by
  refine callee_b (by decide +kernel) (Nat.le_of_ble_eq_true rfl) rfl ?_
  have hD := hG.2.1
  have e4 : I 339 4 = D 339 1 := hT.sq.2.2.2.1
  have n307 : (ln MF 307 : Int) = 1600 := nM307
  have no : ¬ imOK D t len → PN X 4 mX11_isImage 64 [] [] I R (fun v I' R' => v.2 = bi (imOK D t len) ∧ I' = I ∧ R' = R) := fun c => S_X11_isImage_64 ⟨(bi_f c).symm, rfl, rfl⟩
  have no2 : ¬ imOK D t len → PN X 4 mX11_isImage 121 [] [] I R (fun v I' R' => v.2 = bi (imOK D t len) ∧ I' = I ∧ R' = R) := fun c => S_X11_isImage_121 ⟨(bi_f c).symm, rfl, rfl⟩
  refine S_X11_isImage_0 (by rw [hT.1]; decide) (fun g => absurd (hT.1.symm.trans g) (by decide)) (fun _ => ?_)
  refine S_X11_isImage_7 (d1 := 0) (by omega) (c_personMany hs) (fun z I1 R1 r => ?_)
  obtain ⟨(hz : z = _), rfl, rfl⟩ := r
  rw [e4] at hz
  rw [hz]
  refine S_X11_isImage_15 hl (by omega) (fun g => no (fun c => g c.1)) (fun g => ?_)
  have rl := hr (len - 1) (by omega) (by omega)
  have sr := slF_r t (len - 1).toNat
  refine S_X11_isImage_20 (d1 := 0) hs (by omega) (by omega) (c_checked kM307 (by omega) (by omega) (fun k k0 k1 => by rw [ht]; exact hr k k0 (by omega))) (fun z I1 R1 r => ?_)
  obtain ⟨(hz : z = _), rfl, rfl⟩ := r
  rw [ht] at hz
  rw [ht, hz]
  refine S_X11_isImage_38 (by omega) (by omega) (fun g2 => no (fun c => g2 c.2.1)) (fun g2 => ?_)
  have t0 := hr 0 (by decide) (by decide)
  have t1 := hr 1 (by decide) (by decide)
  have t2 := hr 2 (by decide) (by decide)
  have t3 := hr 3 (by decide) (by decide)
  refine S_X11_isImage_41 hs (by rw [ht]; omega) (fun g3 => ?_) (fun g3 => no (fun c => by rw [ht] at g3; have := c.2.2.1; omega))
  rw [ht] at g3
  refine S_X11_isImage_66 (d1 := 0) hs (by omega) (c_personMany hs) (fun z I1 R1 r => ?_)
  obtain ⟨(hz : z = _), rfl, rfl⟩ := r
  rw [e4] at hz
  rw [ht, hz]
  refine S_X11_isImage_76 (by omega) (by omega) (fun g4 => no2 (fun c => by have := c.2.2.2.1; omega)) (fun g4 => ?_)
  refine S_X11_isImage_79 hs (by rw [ht]; omega) (fun g5 => no2 (fun c => by rw [ht] at g5; have := c.2.2.2.2.1; omega)) (fun g5 => ?_)
  rw [ht] at g5
  have lp : (t 2 = 0 ↔ t 3 = 0) → ∀ (f : Nat) (k : Int), (D 339 1 - k).toNat < f → 0 ≤ k → k ≤ D 339 1 → (∀ j, 0 ≤ j → j < k → perOK D t j) → PN X 4 mX11_isImage 125 [(2, 306), (9, 0), (0, k)] [] I1 R1 (fun v I' R' => v.2 = bi (imOK D t len) ∧ I' = I1 ∧ R' = R1) := by
    intro hz2 f
    induction f with
    | zero => intro k h; exact absurd h (Nat.not_lt_zero _)
    | succ f ih =>
      intro k hf k0 k1 hj
      refine S_X11_isImage_125 (d1 := 0) (by omega) (c_personMany hs) (fun z I1 R1 r => ?_)
      obtain ⟨(hz : z = _), rfl, rfl⟩ := r
      rw [e4] at hz
      rw [hz]
      refine S_X11_isImage_130 (by omega) (by omega) (fun g6 => ?_) (fun g6 => ?_)
      · exact S_X11_isImage_149 ⟨(bi_t ⟨g, g2, g3, g4, g5, hz2, fun q q0 q1 => hj q q0 (by omega)⟩).symm, rfl, rfl⟩
      refine S_X11_isImage_133 (d1 := 3) (by omega) (c_isPersonHere hs hT hG ht hr ⟨k0, by omega⟩) (fun z7 I7 R7 r => ?_)
      obtain ⟨(hz7 : z7 = _), rfl, rfl⟩ := r
      have b7 := bi_r (perOK D t k)
      refine S_X11_isImage_138 (by omega) (fun g7 => S_X11_isImage_143 ?_) (fun g7 => S_X11_isImage_141 ⟨(bi_f (fun c => bi_0 (hz7.symm.trans g7) (c.2.2.2.2.2.2 k k0 (by omega)))).symm, rfl, rfl⟩)
      have ok := bi_1 (c := perOK D t k) (by rw [← hz7]; exact g7)
      refine ih (k + 1) (by omega) (by omega) (by omega) (fun j j0 j1 => ?_)
      by_cases e : j = k
      · rw [e]; exact ok
      · exact hj j j0 (by omega)
  have fin : ∀ a b : Int, (a = 1 ∧ t 2 = 0 ∨ a = 0 ∧ t 2 ≠ 0) → (b = 1 ∧ t 3 = 0 ∨ b = 0 ∧ t 3 ≠ 0) → PN X 4 mX11_isImage 118 [(2, 306)] [(0, b), (0, a)] I1 R1 (fun v I' R' => v.2 = bi (imOK D t len) ∧ I' = I1 ∧ R' = R1) := fun a b ha hb => by
    refine S_X11_isImage_118 (by omega) (by omega) (fun g8 => S_X11_isImage_123 (lp ⟨fun c => by omega, fun c => by omega⟩ _ 0 (Nat.lt_succ_self _) (by decide) (by omega) (fun j j0 j1 => by omega))) (fun g8 => no2 (fun c => ?_))
    have c1 := c.2.2.2.2.2.1
    rcases ha with ⟨a1, a2⟩ | ⟨a1, a2⟩
    · have := c1.mp a2; omega
    · have : t 3 ≠ 0 := fun k => a2 (c1.mpr k)
      omega
  have two : ∀ a : Int, (a = 1 ∧ t 2 = 0 ∨ a = 0 ∧ t 2 ≠ 0) → PN X 4 mX11_isImage 104 [(2, 306)] [(0, a)] I1 R1 (fun v I' R' => v.2 = bi (imOK D t len) ∧ I' = I1 ∧ R' = R1) := fun a ha =>
    S_X11_isImage_104 hs (by rw [ht]; omega) (fun g7 => S_X11_isImage_117 (fin a 0 ha (Or.inr ⟨rfl, fun c => g7 (by rw [ht]; exact c)⟩))) (fun g7 => S_X11_isImage_113 (fin a 1 ha (Or.inl ⟨rfl, by rw [ht] at g7; exact g7⟩)))
  exact S_X11_isImage_90 hs (by rw [ht]; omega) (fun g6 => S_X11_isImage_103 (two 0 (Or.inr ⟨rfl, fun c => g6 (by rw [ht]; exact c)⟩))) (fun g6 => S_X11_isImage_99 (two 1 (Or.inl ⟨rfl, by rw [ht] at g6; exact g6⟩)))
/-- the model's state tells an image -/
def ImS (D : PF) (t : Int → Int) (k : Int) (K : PF) : Prop := ∀ q, 0 ≤ q → q < k → (∀ r, 0 ≤ r → r < 4 → K 348 (3 + 5 * q + r) = t (4 + 6 * q + r)) ∧ K 348 (3 + 5 * q + 4) = 256 * t (4 + 6 * q + 4) + t (4 + 6 * q + 5)
theorem c_mon {X : CX} {I R D : PF} {len : Int} {t : Int → Int} (hs : Shp R) (hT : ST D I) (hG : GD D) (hl : I 306 1 = len) (hlr : inR len) (ht : I 307 = t) (hr : ∀ j, 0 ≤ j → j < 1600 → 0 ≤ t j ∧ t j ≤ 255) :
    CN X 5 mX11_on [(2, 306)] I R (fun v I' R' => (imOK D t len → v.2 = 1 ∧ I' 306 1 = 0 ∧ I' 306 76 = 0 ∧ I' 348 33 = 0 ∧ (I' 348 0 = 256 * t 0 + t 1 ∧ I' 348 1 = t 2 - 1 ∧ I' 348 2 = t 3) ∧ ImS D t (D 339 1) I' ∧ FR (fun x y => (x = 306 ∧ (y = 1 ∨ y = 76)) ∨ x = 348) I I') ∧
      (¬ imOK D t len → v.2 = 0 ∧ I' = u2 (u2 I 306 1 0) 308 5 (I 308 5 + 1)) ∧ R' = R) := by
  refine callee_b (by decide +kernel) (Nat.le_of_ble_eq_true rfl) rfl ?_
  have hD := hG.2.1
  have fA : FR (fun x y => x = 306 ∧ y = 1) I (u2 I 306 1 0) := FR_u2 ⟨rfl, rfl⟩
  have v1 : (u2 I 306 1 0) 306 1 = 0 := u2_at
  have w308 : (u2 I 306 1 0) 308 5 = I 308 5 := u2_o (by decide)
  have S0 := @S_X11_on_0 X 5 4 I R
  rw [hl] at S0
  have hTA : ST D (u2 I 306 1 0) := hT.cg hG (fun y c => fA _ _ (by omega)) (fun y c => fA _ _ (by omega)) (fun y c => fA _ _ (by omega)) (fun y c => fA _ _ (by omega)) (fun y c => fA _ _ (by omega)) (fun y c => fA _ _ (by omega)) (fun x y c c2 => fA _ _ (by omega)) (fun y c => fA _ _ (by omega))
  have htA : (u2 I 306 1 0) 307 = t := (funext fun y => fA _ _ (by omega)).trans ht
  refine S0 (by omega) (c_isImage hs hTA hG htA hr hlr) (fun z I1 R1 r => ?_)
  obtain ⟨(hz : z = _), rfl, rfl⟩ := r
  have b := bi_r (imOK D t len)
  refine S_X11_on_15 (by omega) (fun g => ?_) (fun g => ?_)
  · have ok := bi_1 (c := imOK D t len) (by rw [← hz]; exact g)
    have e4 : (u2 I 306 1 0) 339 4 = D 339 1 := hTA.sq.2.2.2.1
    generalize hA : u2 I 306 1 0 = A at *
    have h348 : (307 : Int) ≠ 348 := by decide
    have S := @S_X11_on_30 X 5 A R1
    simp only [u2_o h348] at S
    rw [htA] at S
    have lp : ∀ (f : Nat) (k : Int) (B : PF), (D 339 1 - k).toNat < f → 0 ≤ k → k ≤ D 339 1 → ImS D t k B → (B 348 0 = 256 * t 0 + t 1 ∧ B 348 1 = t 2 - 1 ∧ B 348 2 = t 3) → FR (fun x y => x = 348) A B → PN X 5 mX11_on 81 [(2, 306), (9, 0), (0, k)] [] B R1 (fun v I' R' => (imOK D t len → v.2 = 1 ∧ I' 306 1 = 0 ∧ I' 306 76 = 0 ∧ I' 348 33 = 0 ∧ (I' 348 0 = 256 * t 0 + t 1 ∧ I' 348 1 = t 2 - 1 ∧ I' 348 2 = t 3) ∧ ImS D t (D 339 1) I' ∧ FR (fun x y => (x = 306 ∧ (y = 1 ∨ y = 76)) ∨ x = 348) I I') ∧
      (¬ imOK D t len → v.2 = 0 ∧ I' = u2 A 308 5 (I 308 5 + 1)) ∧ R' = R1) := by
      intro f
      induction f with
      | zero => intro k B h; exact absurd h (Nat.not_lt_zero _)
      | succ f ih =>
        intro k B hf k0 k1 hI hh fB
        refine S_X11_on_81 (d1 := 0) (by omega) (c_personMany hs) (fun z2 I2 R2 r => ?_)
        obtain ⟨(hz2 : z2 = _), rfl, rfl⟩ := r
        rw [fB _ _ (by omega), e4] at hz2
        rw [hz2]
        refine S_X11_on_86 (by omega) (by omega) (fun g2 => ?_) (fun g2 => ?_)
        · obtain rfl : k = D 339 1 := by omega
          refine S_X11_on_174 hs ⟨fun _ => ⟨rfl, ?_, u2_at, ?_, ?_, fun q q0 q1 => ?_, ((fA.mono (fun x y c => Or.inl ⟨c.1, Or.inl c.2⟩)).tr (fB.mono (fun x y c => Or.inr c))).tr ((FR_u2 (Or.inr rfl)).tr (FR_u2 (Or.inl ⟨rfl, Or.inr rfl⟩)))⟩, fun c => absurd ok c, rfl⟩
          · rw [u2_j (by decide), u2_o (by decide), fB _ _ (by decide)]; exact v1
          · rw [u2_o (by decide), u2_at]
          · have o : ∀ y, y ≠ 33 → u2 (u2 I2 348 33 0) 306 76 0 348 y = I2 348 y := fun y hy => by rw [u2_o (by decide), u2_j hy]
            rw [o _ (by decide), o _ (by decide), o _ (by decide)]; exact hh
          · have a := hI q q0 q1
            refine ⟨fun r r0 r1 => ?_, ?_⟩
            · rw [u2_o (by decide), u2_j (by omega)]; exact a.1 r r0 r1
            · rw [u2_o (by decide), u2_j (by omega)]; exact a.2
        have four : ∀ (f2 : Nat) (r : Int) (C : PF), (4 - r).toNat < f2 → 0 ≤ r → r ≤ 4 → ImS D t k C → (∀ r', 0 ≤ r' → r' < r → C 348 (3 + 5 * k + r') = t (4 + 6 * k + r')) → (C 348 0 = 256 * t 0 + t 1 ∧ C 348 1 = t 2 - 1 ∧ C 348 2 = t 3) → FR (fun x y => x = 348) A C → PN X 5 mX11_on 91 [(2, 306), (9, 0), (0, k), (0, r)] [] C R2 (fun v I' R' => (imOK D t len → v.2 = 1 ∧ I' 306 1 = 0 ∧ I' 306 76 = 0 ∧ I' 348 33 = 0 ∧ (I' 348 0 = 256 * t 0 + t 1 ∧ I' 348 1 = t 2 - 1 ∧ I' 348 2 = t 3) ∧ ImS D t (D 339 1) I' ∧ FR (fun x y => (x = 306 ∧ (y = 1 ∨ y = 76)) ∨ x = 348) I I') ∧
      (¬ imOK D t len → v.2 = 0 ∧ I' = u2 A 308 5 (I 308 5 + 1)) ∧ R' = R2) := by
          intro f2
          induction f2 with
          | zero => intro r C h; exact absurd h (Nat.not_lt_zero _)
          | succ f2 ih2 =>
            intro r C hf2 r0 r1 hIC hrr hhC fC
            have c307 : C 307 = t := (funext fun y => fC _ _ (by omega)).trans htA
            refine S_X11_on_91 (by omega) (fun g3 => ?_) (fun g3 => ?_)
            · obtain rfl : r = 4 := by omega
              refine S_X11_on_127 hs (by omega) (by omega) (by omega) (ih (k + 1) _ (by omega) (by omega) (by omega) (fun q q0 q1 => ?_) ?_ (fC.tr (FR_u2 rfl)))
              · rw [c307]
                by_cases e : q = k
                · subst e
                  refine ⟨fun r' r0' r1' => ?_, by rw [u2_at, show 8 + 6 * q = 4 + 6 * q + 4 by omega, show 9 + 6 * q = 4 + 6 * q + 5 by omega]⟩
                  rw [u2_j (by omega)]; exact hrr r' r0' r1'
                · have a := hIC q q0 (by omega)
                  refine ⟨fun r' r0' r1' => ?_, ?_⟩
                  · rw [u2_j (by omega)]; exact a.1 r' r0' r1'
                  · rw [u2_j (by omega)]; exact a.2
              · rw [u2_j (by omega), u2_j (by omega), u2_j (by omega)]; exact hhC
            · refine S_X11_on_96 hs (by omega) (by omega) (ih2 (r + 1) _ (by omega) (by omega) (by omega) (fun q q0 q1 => ?_) (fun r' r0' r1' => ?_) ?_ (fC.tr (FR_u2 rfl)))
              · have a := hIC q q0 q1
                refine ⟨fun r' r0' r1' => ?_, ?_⟩
                · rw [u2_j (by omega)]; exact a.1 r' r0' r1'
                · rw [u2_j (by omega)]; exact a.2
              · rw [c307]
                by_cases e : r' = r
                · rw [e, u2_at]
                · rw [u2_j (by omega)]; exact hrr r' r0' (by omega)
              · rw [u2_j (by omega), u2_j (by omega), u2_j (by omega)]; exact hhC
        exact S_X11_on_89 (four 5 0 I2 (by decide) (by decide) (by decide) hI (fun r' a b => by omega) hh fB)
    refine S hs (lp _ 0 _ (Nat.lt_succ_self _) (by decide) (by omega) (fun q q0 q1 => by omega) ⟨?_, ?_, ?_⟩ (((FR_u2 (P := fun x y => x = 348) rfl).tr (FR_u2 rfl)).tr (FR_u2 rfl)))
    · rw [u2_j (by decide), u2_j (by decide), u2_at]
    · rw [u2_j (by decide), u2_at]
    · rw [u2_at]
  · have ok := bi_0 (c := imOK D t len) (hz.symm.trans g)
    refine S_X11_on_18 hs ⟨fun c => absurd c ok, fun _ => ⟨rfl, ?_⟩, rfl⟩
    rw [w308]
theorem c_mon0 {X : CX} {I R : PF} (hs : Shp R) (h0 : I 306 55 = 0) : CN X 5 mX11_on [(2, 306)] I R (fun v I' R' => v.2 = 0 ∧ I' = u2 (u2 I 306 1 0) 308 5 (I 308 5 + 1) ∧ R' = R) := by
  refine callee_b (by decide +kernel) (Nat.le_of_ble_eq_true rfl) rfl ?_
  have e55 : (u2 I 306 1 0) 306 55 = 0 := by rw [u2_j (by decide)]; exact h0
  have w308 : (u2 I 306 1 0) 308 5 = I 308 5 := u2_o (by decide)
  refine S_X11_on_0 (d1 := 4) (by omega) (callee_b (by decide +kernel) (Nat.le_of_ble_eq_true rfl) rfl (S_X11_isImage_0 (Q := fun v I' R' => v.2 = 0 ∧ I' = u2 I 306 1 0 ∧ R' = R) (by rw [e55]; decide) (fun _ => S_X11_isImage_64 ⟨rfl, rfl, rfl⟩) (fun g => absurd e55 g))) (fun z I1 R1 r => ?_)
  obtain ⟨(hz : z = _), rfl, rfl⟩ := r
  refine S_X11_on_15 (by omega) (fun g => absurd hz g) (fun _ => S_X11_on_18 hs ⟨rfl, ?_, rfl⟩)
  rw [w308]
theorem c_xon {X : CX} {I R D : PF} {p o len : Int} {t : Int → Int} (hs : Shp R) (hp : Plc R p o) (hT : Tld D p I) (hl : I 64 1 = len) (hlr : inR len) (ht : I 65 = t) (hr : ∀ j, 0 ≤ j → j < 1600 → 0 ≤ t j ∧ t j ≤ 255) :
    CN X 4 mX10_on [(2, 64)] I R (fun v I' R' => (imOK D t len → v.2 = 1 ∧ I' 64 1 = 0 ∧ I' 136 1 = 0 ∧ I' 136 5 = 0 ∧ (I' 111 0 = 256 * t 0 + t 1 ∧ I' 111 1 = t 2 - 1 ∧ I' 111 2 = t 3 ∧ I' 111 3 = D 339 1) ∧ (∀ q, 0 ≤ q → q < D 339 1 → (I' (113 + q) 0 = t (4 + 6 * q) ∧ I' (113 + q) 1 = t (4 + 6 * q + 1) ∧ I' (113 + q) 5 = t (4 + 6 * q + 2) ∧ I' (113 + q) 6 = t (4 + 6 * q + 3) ∧ I' (113 + q) 7 = 256 * t (4 + 6 * q + 4) + t (4 + 6 * q + 5)) ∧ I' (113 + q) 2 = I 342 (24 + 4 * q) ∧ I' (113 + q) 3 = I 342 (25 + 4 * q) ∧ I' (113 + q) 4 = I 342 (26 + 4 * q)) ∧ FR (fun x y => (x = 64 ∧ y = 1) ∨ (111 ≤ x ∧ x ≤ 126) ∨ (x = 136 ∧ (y = 1 ∨ y = 5))) I I') ∧
      (¬ imOK D t len → v.2 = 0 ∧ I' 64 1 = 0 ∧ I' 66 5 = I 66 5 + 1 ∧ FR (fun x y => (x = 64 ∧ y = 1) ∨ (119 ≤ x ∧ x ≤ 126) ∨ (x = 66 ∧ y = 5)) I I') ∧ R' = R) := by
  refine callee_b (by decide +kernel) (Nat.le_of_ble_eq_true rfl) rfl ?_
  have p0 := hT.p0
  have kp := (plc_k hp).1
  have hpp := sq_o kp
  obtain ⟨hG, hW, hQ, hL, hST, hK, hS, -⟩ := hT
  have hD := hG.2.1
  refine S_X10_on_0 (d1 := 0) (by omega) c_takeTape (fun z A R1 r => ?_)
  obtain ⟨(hz : z = _), eA, rfl⟩ := r
  rw [hl] at hz
  rw [hz]
  have fA : FR (fun x y => x = 64 ∧ y = 1) I A := by rw [eA]; exact FR_u2 ⟨rfl, rfl⟩
  have a64 : A 64 1 = 0 := by rw [eA]; exact u2_at
  have nA : ∀ x y, x ≠ 64 → A x y = I x y := fun x y c => fA x y (fun d => c d.1)
  refine S_X10_on_4 (d1 := 0) (by omega) (c_isToldX hp (by rw [nA _ _ (by omega)]; unfold inR; omega)) (fun z2 I2 R2 r => ?_)
  obtain ⟨(hz2 : z2 = _), rfl, rfl⟩ := r
  rw [nA p 0 (by omega), bi_t p0.1] at hz2
  refine S_X10_on_9 (by omega) (fun g => by omega) (fun _ => ?_)
  have hSA : StC D I2 111 I2 := (hS.cg ⟨by omega, by omega⟩ (fun y _ _ => nA _ _ (by decide)) (fun y _ => nA _ _ (by decide))).fr ⟨by omega, by omega⟩ (fun x y c => nA _ _ (by unfold stC at c; omega))
  refine S_X10_on_12 (d1 := 3) (by omega) (c_readImage (t := t) hs hp hG (hQ.f2 (fun x a b _ _ => funext fun y => nA _ _ (by omega)) hG) hSA ((funext fun y => nA _ _ (by decide)).trans ht) hr hlr) (fun z3 I3 R3 r => ?_)
  obtain ⟨(hz3 : z3 = _), q2, q3, rfl⟩ := r
  have n3 : ∀ x y, ¬ (119 ≤ x ∧ x ≤ 126) → I3 x y = I2 x y := q3
  have b3 := bi_r (imOK D t len)
  refine S_X10_on_17 (by omega) (fun g => ?_) (fun g => ?_)
  · have ok := bi_1 (c := imOK D t len) (by rw [← hz3]; exact g)
    obtain ⟨⟨h0, h1, h2, h3⟩, hh⟩ := q2 ok
    refine S_X10_on_32 (d1 := 1) hs (by omega) (c_copyFrom hs kM111 kM119 (by decide) (by omega)) (fun z4 I4 R4 r => ?_)
    obtain ⟨x0, x1, x2, x3, x4, x5, rfl⟩ := r
    have n4 : ∀ x y, ¬ (111 ≤ x ∧ x ≤ 118) → I4 x y = I3 x y := fun x y c => x5 x y (fun d => by unfold stC at d; omega)
    refine S_X10_on_43 (d1 := 0) hs (by omega) (callee_b (by decide +kernel) (Nat.le_of_ble_eq_true rfl) rfl (S_X4_forget_0 (Q := fun _ I' R' => I' = u2 (u2 I4 136 1 0) 136 5 0 ∧ R' = R4) ⟨rfl, rfl⟩)) (fun z5 I5 R5 r => ?_)
    obtain ⟨rfl, rfl⟩ := r
    have o5 : ∀ x y, x ≠ 136 → u2 (u2 I4 136 1 0) 136 5 0 x y = I4 x y := fun x y c => by rw [u2_o c, u2_o c]
    have ff : FR (fun x y => (x = 64 ∧ y = 1) ∨ (111 ≤ x ∧ x ≤ 126) ∨ (x = 136 ∧ (y = 1 ∨ y = 5))) I (u2 (u2 I4 136 1 0) 136 5 0) := (((fA.mono (fun x y c => Or.inl c)).tr (q3.mono (fun x y c => Or.inr (Or.inl ⟨by omega, by omega⟩)))).tr (x5.mono (fun x y c => Or.inr (Or.inl (by unfold stC at c; omega))))).tr ((FR_u2 (Or.inr (Or.inr ⟨rfl, Or.inl rfl⟩))).tr (FR_u2 (Or.inr (Or.inr ⟨rfl, Or.inr rfl⟩))))
    refine S_X10_on_50 ⟨fun _ => ⟨rfl, ?_, ?_, u2_at, ⟨?_, ?_, ?_, ?_⟩, fun q q0 q1 => ?_, ff⟩, fun c => absurd ok c, rfl⟩
    · rw [o5 _ _ (by decide), n4 _ _ (by decide), n3 _ _ (by decide)]; exact a64
    · rw [u2_j (by decide), u2_at]
    · rw [o5 _ _ (by decide), x0]; exact h0
    · rw [o5 _ _ (by decide), x1]; exact h1
    · rw [o5 _ _ (by decide), x2]; exact h2
    · rw [o5 _ _ (by decide), x3]; exact h3
    · have c := fun y (y0 : 0 ≤ y) (y1 : y < 8) => x4 q y q0 (by omega) y0 y1
      rw [show (111 : Int) + 2 + q = 113 + q by omega, show (119 : Int) + 2 + q = 121 + q by omega] at c
      obtain ⟨⟨d0, d1, d5, d6, d7⟩, d2, d3, d4⟩ := hh q q0 q1
      rw [o5 _ _ (by omega), o5 _ _ (by omega), o5 _ _ (by omega), o5 _ _ (by omega), o5 _ _ (by omega), o5 _ _ (by omega), o5 _ _ (by omega), o5 _ _ (by omega), c 0 (by decide) (by decide), c 1 (by decide) (by decide), c 2 (by decide) (by decide), c 3 (by decide) (by decide), c 4 (by decide) (by decide), c 5 (by decide) (by decide), c 6 (by decide) (by decide), c 7 (by decide) (by decide), d2, d3, d4, nA _ _ (by decide), nA _ _ (by decide), nA _ _ (by decide)]
      exact ⟨⟨d0, d1, d5, d6, d7⟩, rfl, rfl, rfl⟩
  · have ok := bi_0 (c := imOK D t len) (hz3.symm.trans g)
    refine S_X10_on_20 hs ⟨fun c => absurd c ok, fun _ => ⟨rfl, ?_, ?_, ((fA.mono (fun x y c => Or.inl c)).tr (q3.mono (fun x y c => Or.inr (Or.inl c)))).tr (FR_u2 (Or.inr (Or.inr ⟨rfl, rfl⟩)))⟩, rfl⟩
    · rw [u2_o (by decide), n3 _ _ (by decide)]; exact a64
    · rw [u2_at, n3 _ _ (by decide), nA _ _ (by decide)]
theorem c_xon0 {X : CX} {I R : PF} {p o : Int} (hs : Shp R) (hp : Plc R p o) (h0 : I p 0 = 0) : CN X 4 mX10_on [(2, 64)] I R (fun v I' R' => v.2 = 0 ∧ I' 64 1 = 0 ∧ I' 66 5 = I 66 5 + 1 ∧ FR (fun x y => (x = 64 ∧ y = 1) ∨ (119 ≤ x ∧ x ≤ 126) ∨ (x = 66 ∧ y = 5)) I I' ∧ R' = R) := by
  refine callee_b (by decide +kernel) (Nat.le_of_ble_eq_true rfl) rfl ?_
  have hpp := sq_o (plc_k hp).1
  refine S_X10_on_0 (d1 := 0) (by omega) c_takeTape (fun z A R1 r => ?_)
  obtain ⟨(hz : z = _), eA, rfl⟩ := r
  have fA : FR (fun x y => x = 64 ∧ y = 1) I A := by rw [eA]; exact FR_u2 ⟨rfl, rfl⟩
  have a64 : A 64 1 = 0 := by rw [eA]; exact u2_at
  have nA : ∀ x y, x ≠ 64 → A x y = I x y := fun x y c => fA x y (fun d => c d.1)
  refine S_X10_on_4 (d1 := 0) (by omega) (c_isToldX hp (by rw [nA _ _ (by omega), h0]; decide)) (fun z2 I2 R2 r => ?_)
  obtain ⟨(hz2 : z2 = _), rfl, rfl⟩ := r
  rw [nA p 0 (by omega), bi_f (by omega)] at hz2
  refine S_X10_on_9 (by omega) (fun _ => S_X10_on_20 hs ⟨rfl, ?_, ?_, (fA.mono (fun x y c => Or.inl c)).tr (FR_u2 (Or.inr (Or.inr ⟨rfl, rfl⟩))), rfl⟩) (fun g => absurd hz2 g)
  · rw [u2_o (by decide)]; exact a64
  · rw [u2_at, nA _ _ (by decide)]
/-- both refuse, the tape taken, the other state touched -/
theorem Sim.rt2 {I J R : PF} {k : Int} (h : Sim I R) (f : FR (fun x y => ((x = 66 ∨ x = 308) ∧ y = k) ∨ ((x = 64 ∨ x = 306) ∧ y = 1) ∨ (119 ≤ x ∧ x ≤ 126)) I J) (e66 : J 66 k = I 66 k + 1) (e308 : J 308 k = I 308 k + 1) (e64 : J 64 1 = 0) (e306 : J 306 1 = 0) : Sim J R := by
  obtain ⟨p, o, hp⟩ := h.plc
  have h1 : Sim (fun x y => if 119 ≤ x ∧ x ≤ 126 then J x y else I x y) R := h.sc hp (fun x y c => if_neg (fun d => c (Or.inl (by unfold scC; omega)))) FR.rf (by
    rw [if_neg (by decide)]; exact h.2.2.2.1.2.2.2.2.2.1)
  refine h1.rt (k := k) (fun x y c => ?_) ?_ ?_ e64 e306
  · by_cases d : 119 ≤ x ∧ x ≤ 126
    · exact (if_pos d).symm
    · exact (f x y (by omega)).trans (if_neg d).symm
  · rw [e66]; rfl
  · rw [e308]; rfl
theorem b_on {X : CX} {I R : PF} (h : Sim I R) : Both X 4 5 mX10_on mX11_on [] I R := by
  obtain ⟨hs, hcw, hta, hm, p, o, hp, hT⟩ := id h
  obtain ⟨q1, q2, q3, q4, q5⟩ := id hta
  have hpp := sq_o (plc_k hp).1
  have lr : inR (I 306 1) := by unfold inR; omega
  have bad : ∀ {I1 J : PF}, I1 64 1 = 0 → I1 66 5 = I 66 5 + 1 → FR (fun x y => (x = 64 ∧ y = 1) ∨ (119 ≤ x ∧ x ≤ 126) ∨ (x = 66 ∧ y = 5)) I I1 → J = u2 (u2 I1 306 1 0) 308 5 (I1 308 5 + 1) → Sim J R := fun {I1 J} e1 e2 f e => by
    have g : FR (fun x y => (x = 306 ∧ y = 1) ∨ (x = 308 ∧ y = 5)) I1 J := by rw [e]; exact (FR_u2 (Or.inl ⟨rfl, rfl⟩)).tr (FR_u2 (Or.inr ⟨rfl, rfl⟩))
    refine h.rt2 (k := 5) ((f.mono (fun x y c => by omega)).tr (g.mono (fun x y c => by omega))) ?_ ?_ ?_ ?_
    · rw [g _ _ (by decide)]; exact e2
    · rw [e, u2_at, f _ _ (by decide)]
    · rw [g _ _ (by decide)]; exact e1
    · rw [e, u2_o (by decide), u2_at]
  rcases hT with hT | ⟨D, hT⟩
  · refine Callee.mono (c_xon0 hs hp hT.1.1) (fun v I1 R1 r => ?_)
    obtain ⟨r1, r2, r3, r4, rfl⟩ := r
    refine Callee.mono (c_mon0 hs ((r4 _ _ (by decide)).trans hT.2.1)) (fun v2 J R2 r => ?_)
    obtain ⟨w1, w2, rfl⟩ := r
    exact ⟨w1.trans r1.symm, bad r2 r3 r4 w2⟩
  obtain ⟨hG, hW, hQ, hL, hST, hK, hS, hP, hE⟩ := id hT
  have hD := hG.2.1
  refine Callee.mono (c_xon (t := I 65) hs hp hT q2 lr rfl (by rw [q1]; exact q5)) (fun v I1 R1 r => ?_)
  obtain ⟨r1, r2, rfl⟩ := r
  by_cases ok : imOK D (I 65) (I 306 1)
  · obtain ⟨v1, v2, v3, v4, ⟨c0, c1, c2, c3⟩, cp, ff⟩ := r1 ok
    have n1 : ∀ x y, ¬ ((x = 64 ∧ y = 1) ∨ (111 ≤ x ∧ x ≤ 126) ∨ (x = 136 ∧ (y = 1 ∨ y = 5))) → I1 x y = I x y := ff
    refine Callee.mono (c_mon (t := I 65) hs (hST.cg hG (fun y c => n1 _ _ (by omega)) (fun y c => n1 _ _ (by omega)) (fun y c => n1 _ _ (by omega)) (fun y c => n1 _ _ (by omega)) (fun y c => n1 _ _ (by omega)) (fun y c => n1 _ _ (by omega)) (fun x y c c2 => n1 _ _ (by omega)) (fun y c => n1 _ _ (by omega))) hG (n1 _ _ (by decide)) lr ((funext fun y => n1 _ _ (by omega)).trans q1.symm) (by rw [q1]; exact q5)) (fun v' J R2 r => ?_)
    obtain ⟨w, -, rfl⟩ := r
    obtain ⟨w1, w2, w3, w4, ⟨m0, m1, m2⟩, mp, gg⟩ := w ok
    refine ⟨w1.trans v1.symm, ?_⟩
    have n2 : ∀ x y, ¬ ((x = 306 ∧ (y = 1 ∨ y = 76)) ∨ x = 348) → J x y = I1 x y := gg
    have hk : Sim (tkI I) R2 := h.tk
    have hTk : Tld D p (tkI I) := hT.sm hp.2.2 ((tkI_fr I).mono (fun x y c => Or.inr (Or.inr (by unfold smC; omega))))
    have tk64 : tkI I 64 1 = 0 := by unfold tkI; rw [u2_o (by decide), u2_at]
    have tk306 : tkI I 306 1 = 0 := u2_at
    have tkn : ∀ x y, ¬ ((x = 64 ∨ x = 306) ∧ y = 1) → tkI I x y = I x y := tkI_fr I
    have fJ : FR (acA p o) (tkI I) J := fun x y c => by
      by_cases a : (x = 64 ∨ x = 306) ∧ y = 1
      · rcases a with ⟨rfl | rfl, rfl⟩
        · rw [tk64, n2 _ _ (by decide), v2]
        · rw [tk306, w2]
      · rw [tkn x y a, n2 x y (fun d => ?_), n1 x y (fun d => ?_)]
        · rcases d with d | d | d
          · omega
          · by_cases d1 : x ≤ 118
            · exact c (Or.inr (Or.inr (Or.inr (Or.inl ⟨d.1, d1⟩))))
            · exact c (Or.inl (by unfold scC; omega))
          · exact c (Or.inr (Or.inr (Or.inr (Or.inr (Or.inl ⟨by omega, by omega⟩)))))
        · rcases d with d | d
          · exact c (Or.inr (Or.inr (Or.inr (Or.inr (Or.inr (Or.inr (Or.inl ⟨d.1, by omega⟩)))))))
          · exact c (Or.inr (Or.inr (Or.inl d)))
    have jn : ∀ x y, ¬ ((x = 64 ∧ y = 1) ∨ (111 ≤ x ∧ x ≤ 126) ∨ (x = 136 ∧ (y = 1 ∨ y = 5)) ∨ (x = 306 ∧ (y = 1 ∨ y = 76)) ∨ x = 348) → J x y = I x y := fun x y c => (n2 x y (by omega)).trans (n1 x y (by omega))
    have j342 : ∀ y, J 342 y = I 342 y := fun y => jn _ _ (by omega)
    obtain ⟨o1, o2, o3, o4, o5, o6, o7⟩ := ok
    have rt := fun j (j0 : 0 ≤ j) (j1 : j < 1600) => (show 0 ≤ I 65 j ∧ I 65 j ≤ 255 by rw [q1]; exact q5 j j0 j1)
    have t0 := rt 0 (by decide) (by decide)
    have t1 := rt 1 (by decide) (by decide)
    have t2 := rt 2 (by decide) (by decide)
    have t3 := rt 3 (by decide) (by decide)
    have mq : ∀ q, 0 ≤ q → q < D 339 1 → J 348 (3 + 5 * q) = I 65 (4 + 6 * q) := fun q a b => by
      have := (mp q a b).1 0 (by decide) (by decide)
      rw [Int.add_zero, Int.add_zero] at this; exact this
    have jP : ∀ q, 0 ≤ q → q < D 339 1 → P0 J q = (I 65 (4 + 6 * q), I 65 (4 + 6 * q + 1)) := fun q a b => by
      unfold P0; rw [mq q a b, (mp q a b).1 1 (by decide) (by decide)]
    have jK : KG D J := by
      refine ⟨by omega, by omega, by omega, fun q a b => by rw [jP q a b]; exact (o7 q a b).1, ⟨fun k j k0 k1 j0 j1 kj => ?_, fun k k0 k1 => by rw [jP k k0 k1]; exact (o7 k k0 k1).2.1⟩, fun q a b => ?_⟩
      · rw [jP k k0 k1, jP j j0 j1]
        by_cases c : k < j
        · exact (o7 j j0 j1).2.2.2.2 k k0 c
        · exact fun e => (o7 k k0 k1).2.2.2.2 j j0 (by omega) ⟨e.1.symm, e.2.symm⟩
      · have x := hK.2.2.2.2.2 q a b
        have y := (o7 q a b).2.2
        have s2 := rt (4 + 6 * q + 2) (by omega) (by omega)
        have s3 := rt (4 + 6 * q + 3) (by omega) (by omega)
        have s4 := rt (4 + 6 * q + 4) (by omega) (by omega)
        have s5 := rt (4 + 6 * q + 5) (by omega) (by omega)
        rw [j342, j342, j342, (mp q a b).1 2 (by decide) (by decide), (mp q a b).1 3 (by decide) (by decide), (mp q a b).2]
        exact ⟨x.1, x.2.1, x.2.2.1, ⟨s2.1, y.1.1⟩, ⟨s3.1, y.1.2⟩, by omega, y.2.1⟩
    have jS : StC D J 111 J := by
      refine ⟨⟨?_, ?_, ?_, ?_⟩, fun q a b => ?_⟩
      · rw [n2 _ _ (by decide), c0, m0]
      · rw [n2 _ _ (by decide), c1, m1]
      · rw [n2 _ _ (by decide), c2, m2]
      · rw [n2 _ _ (by decide), c3]
      · obtain ⟨⟨d0, d1, d5, d6, d7⟩, d2, d3, d4⟩ := cp q a b
        rw [show (111 : Int) + 2 + q = 113 + q by omega]
        have e : ∀ y, J (113 + q) y = I1 (113 + q) y := fun y => n2 _ _ (by omega)
        rw [e, e, e, e, e, e, e, e, d0, d1, d2, d3, d4, d5, d6, d7, mq q a b, (mp q a b).1 1 (by decide) (by decide), (mp q a b).1 2 (by decide) (by decide), (mp q a b).1 3 (by decide) (by decide), (mp q a b).2, j342, j342, j342]
        exact ⟨rfl, rfl, rfl, rfl, rfl, rfl, rfl, rfl⟩
    have j1 : J 136 1 = 0 := (n2 _ _ (by decide)).trans v3
    have j5 : J 136 5 = 0 := (n2 _ _ (by decide)).trans v4
    have hPJ : Pst D J := by
      refine ⟨?_, by rw [j5, w3], by rw [w3]; decide, by rw [w3]; decide, fun e e1 e2 => by omega, fun e f e1 e2 e3 => by omega⟩
      rw [j1]
      exact ⟨by decide, by omega, by rw [w4]; decide, fun k w k0 k1 _ _ => by omega⟩
    refine hk.act hp hTk fJ FR.rf ?_ ?_ ?_ ?_ jS jK hPJ
    · rw [jn _ _ (by decide)]; exact hm.2.2.2.2.2.1
    · rw [jn 303 0 (by decide), jn 306 78 (by decide)]; exact hm.2.2.1
    · rw [jn _ _ (by decide)]; exact hm.2.2.2.2.2.2.1
    · rw [jn _ _ (by decide)]; exact ⟨hm.2.2.2.2.2.2.2.1, hm.2.2.2.2.2.2.2.2⟩
  · obtain ⟨v1, v2, v3, v4⟩ := r2 ok
    have n1 : ∀ x y, ¬ ((x = 64 ∧ y = 1) ∨ (119 ≤ x ∧ x ≤ 126) ∨ (x = 66 ∧ y = 5)) → I1 x y = I x y := v4
    refine Callee.mono (c_mon (t := I 65) hs (hST.cg hG (fun y c => n1 _ _ (by omega)) (fun y c => n1 _ _ (by omega)) (fun y c => n1 _ _ (by omega)) (fun y c => n1 _ _ (by omega)) (fun y c => n1 _ _ (by omega)) (fun y c => n1 _ _ (by omega)) (fun x y c c2 => n1 _ _ (by omega)) (fun y c => n1 _ _ (by omega))) hG (n1 _ _ (by decide)) lr ((funext fun y => n1 _ _ (by omega)).trans q1.symm) (by rw [q1]; exact q5)) (fun v' J R2 r => ?_)
    obtain ⟨-, w, rfl⟩ := r
    exact ⟨(w ok).1.trans v1.symm, bad v2 v3 v4 (w ok).2⟩
