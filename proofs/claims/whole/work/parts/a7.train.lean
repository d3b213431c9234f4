/-! ===== train ===== -/
def trO (D K : PF) (q w f : Int) : Prop := (0 ≤ q ∧ q < D 339 1) ∧ (0 ≤ w ∧ w < 9 ∧ 0 ≤ f ∧ f ≤ 3) ∧ ¬ (K 348 (3 + 5 * q + 2) = w ∧ K 348 (3 + 5 * q + 3) = f)
theorem KG.tr {D K K' : PF} {q w f : Int} (h : KG D K) (hG : GD D) (hq : 0 ≤ q ∧ q < D 339 1) (hw : 0 ≤ w ∧ w < 9 ∧ 0 ≤ f ∧ f ≤ 3) (h8 : ∀ y, y ≠ 3 + 5 * q + 2 → y ≠ 3 + 5 * q + 3 → K' 348 y = K 348 y) (hx : K' 348 (3 + 5 * q + 2) = w) (hy : K' 348 (3 + 5 * q + 3) = f) (h2 : ∀ y, K' 342 y = K 342 y) : KG D K' := by
  obtain ⟨a1, a2, a3, a4, a5, a6⟩ := h
  have hD := hG.2.1
  have hP : ∀ p, 0 ≤ p → P0 K' p = P0 K p := fun p p0 => by unfold P0; rw [h8 _ (by omega) (by omega), h8 _ (by omega) (by omega)]
  refine ⟨by rw [h8 _ (by omega) (by omega)]; exact a1, by rw [h8 _ (by omega) (by omega)]; exact a2, by rw [h8 _ (by omega) (by omega)]; exact a3, fun p p0 p1 => by rw [hP p p0]; exact a4 p p0 p1, ⟨fun k j k0 k1 j0 j1 kj => by rw [hP k k0, hP j j0]; exact a5.1 k j k0 k1 j0 j1 kj, fun k k0 k1 => by rw [hP k k0]; exact a5.2 k k0 k1⟩, fun p p0 p1 => ?_⟩
  have b := a6 p p0 p1
  rw [h2, h2, h2, h8 (3 + 5 * p + 4) (by omega) (by omega)]
  by_cases c : p = q
  · rw [c, hx, hy]; rw [c] at b; omega
  · rw [h8 (3 + 5 * p + 2) (by omega) (by omega), h8 (3 + 5 * p + 3) (by omega) (by omega)]; exact b
theorem c_throwsSo {X : CX} {I R : PF} {q w f : Int} (hs : Shp R) (hq : 0 ≤ q ∧ q < 6) (h5 : inR (I (111 + 2 + q) 5)) (h6 : inR (I (111 + 2 + q) 6)) (hw : inR w) (hf : inR f) : CN X 0 mX8_throwsSo [(2, 111), (0, q), (0, w), (0, f)] I R (fun v I' R' => v.2 = bi (I (111 + 2 + q) 5 = w ∧ I (111 + 2 + q) 6 = f) ∧ I' = I ∧ R' = R) := by
  refine callee_b (by decide +kernel) (Nat.le_of_ble_eq_true rfl) rfl ?_
  have no : ¬ (I (111 + 2 + q) 5 = w ∧ I (111 + 2 + q) 6 = f) → PN X 0 mX8_throwsSo 29 [] [] I R (fun v I' R' => v.2 = bi (I (111 + 2 + q) 5 = w ∧ I (111 + 2 + q) 6 = f) ∧ I' = I ∧ R' = R) := fun c => S_X8_throwsSo_29 (S_X8_throwsSo_30 (by decide) ⟨(bi_f c).symm, rfl, rfl⟩)
  exact S_X8_throwsSo_0 hs kM111 hq h5 hw (fun g => no (fun c => g c.1)) (fun g => S_X8_throwsSo_12 hs kM111 hq h6 hf (fun g2 => no (fun c => g2 c.2)) (fun g2 => S_X8_throwsSo_25 (S_X8_throwsSo_30 (by decide) ⟨(bi_t ⟨g, g2⟩).symm, rfl, rfl⟩)))
theorem c_xtrain {X : CX} {I R D : PF} {p o q w f : Int} (h : Sim I R) (hp : Plc R p o) (hT : Tld D p I) (hq : inR q) (hw : inR w) (hf : inR f) :
    CN X 3 mX10_train [(2, 64), (0, q), (0, w), (0, f)] I R (fun v I' R' => (trO D I q w f → v.2 = 1 ∧ ∃ Ia, RemP D I Ia ∧ I' = u2 (u2 Ia (111 + 2 + q) 5 w) (111 + 2 + q) 6 f) ∧ (¬ trO D I q w f → v.2 = 0 ∧ I' = u2 I 66 2 (I 66 2 + 1)) ∧ R' = R) := by
  have hs := h.1
  have sm := h.2.2.2.1
  refine callee_b (by decide +kernel) (Nat.le_of_ble_eq_true rfl) rfl ?_
  obtain ⟨hG, hW, hQ, hL, hST, hK, hS, hP, -⟩ := id hT
  have hD := hG.2.1
  have e3 : I 111 3 = D 339 1 := hS.1.2.2.2
  have no : ¬ trO D I q w f → PN X 3 mX10_train 32 [(2, 64)] [] I R (fun v I' R' => (trO D I q w f → v.2 = 1 ∧ ∃ Ia, RemP D I Ia ∧ I' = u2 (u2 Ia (111 + 2 + q) 5 w) (111 + 2 + q) 6 f) ∧ (¬ trO D I q w f → v.2 = 0 ∧ I' = u2 I 66 2 (I 66 2 + 1)) ∧ R' = R) := fun c => S_X10_train_32 hs ⟨fun k => absurd k c, fun _ => ⟨rfl, rfl⟩, rfl⟩
  refine S_X10_train_0 (d1 := 0) hs (by omega) (c_knows kM111 hq (by unfold inR; omega)) (fun z I1 R1 r => ?_)
  obtain ⟨(hz : z = _), rfl, rfl⟩ := r
  have b := bi_r (0 ≤ q ∧ q < I1 111 3)
  refine S_X10_train_8 (by omega) (fun g => no (fun c => bi_0 (hz.symm.trans g) (by rw [e3]; exact c.1))) (fun g => ?_)
  have c1 := bi_1 (c := 0 ≤ q ∧ q < I1 111 3) (by rw [← hz]; exact g)
  rw [e3] at c1
  refine S_X10_train_11 (d1 := 0) (by omega) (c_isThrow hw hf) (fun z2 I2 R2 r => ?_)
  obtain ⟨(hz2 : z2 = _), rfl, rfl⟩ := r
  have b2 := bi_r (0 ≤ w ∧ w < 9 ∧ 0 ≤ f ∧ f ≤ 3)
  refine S_X10_train_16 (by omega) (fun g2 => no (fun c => bi_0 (hz2.symm.trans g2) c.2.1)) (fun g2 => ?_)
  have c2 := bi_1 (c := 0 ≤ w ∧ w < 9 ∧ 0 ≤ f ∧ f ≤ 3) (by rw [← hz2]; exact g2)
  have hq8 := hS.2 q c1.1 c1.2
  have k6 := hK.2.2.2.2.2 q c1.1 c1.2
  refine S_X10_train_19 (d1 := 0) hs (by omega) (c_throwsSo hs ⟨c1.1, by omega⟩ (by unfold inR; omega) (by unfold inR; omega) hw hf) (fun z3 I3 R3 r => ?_)
  obtain ⟨(hz3 : z3 = _), rfl, rfl⟩ := r
  rw [hq8.2.2.2.2.2.1, hq8.2.2.2.2.2.2.1] at hz3
  have b3 := bi_r (I3 348 (3 + 5 * q + 2) = w ∧ I3 348 (3 + 5 * q + 3) = f)
  refine S_X10_train_29 (by omega) (fun g3 => ?_) (fun g3 => no (fun c => c.2.2 (bi_1 (by rw [← hz3]; exact g3))))
  have ok : trO D I3 q w f := ⟨c1, c2, bi_0 (hz3.symm.trans g3)⟩
  have h5 := hP.2.1
  have h51 := hP.2.2.1
  have h52 := hP.2.2.2.1
  refine S_X10_train_44 (d1 := 2) hs (by omega) (c_remember hs hG hS sm.2.2.2.2.2.2.1 (by omega)) (fun z4 Ia R4 r => ?_)
  obtain ⟨r1, r2, r3, r4, r5, rfl⟩ := r
  exact S_X10_train_55 hs ⟨c1.1, by omega⟩ ⟨fun _ => ⟨rfl, Ia, ⟨r1, r2, r3, r4, r5⟩, rfl⟩, fun c => absurd ok c, rfl⟩
theorem c_mtrain {X : CX} {I J R D : PF} {q w f : Int} (hs : Shp R) (hT : ST D J) (h8 : J 348 = I 348) (hG : GD D) (hK : KG D I) (h77 : 0 ≤ J 306 77 ∧ J 306 77 < 20) (h76 : 0 ≤ J 306 76 ∧ J 306 76 ≤ 20) (hq : inR q) (hw : inR w) (hf : inR f) :
    CN X 3 mX11_train [(2, 306), (0, q), (0, w), (0, f)] J R (fun v I' R' => (trO D I q w f → v.2 = 1 ∧ ∃ Ib, KepP J Ib ∧ I' = u2 (u2 Ib 348 (3 + 5 * q + 2) w) 348 (3 + 5 * q + 2 + 1) f) ∧ (¬ trO D I q w f → v.2 = 0 ∧ I' = u2 J 308 2 (J 308 2 + 1)) ∧ R' = R) := by
  refine callee_b (by decide +kernel) (Nat.le_of_ble_eq_true rfl) rfl ?_
  have hD := hG.2.1
  have e4 : J 339 4 = D 339 1 := hT.sq.2.2.2.1
  have no : ¬ trO D I q w f → PN X 3 mX11_train 65 [(2, 306)] [] J R (fun v I' R' => (trO D I q w f → v.2 = 1 ∧ ∃ Ib, KepP J Ib ∧ I' = u2 (u2 Ib 348 (3 + 5 * q + 2) w) 348 (3 + 5 * q + 2 + 1) f) ∧ (¬ trO D I q w f → v.2 = 0 ∧ I' = u2 J 308 2 (J 308 2 + 1)) ∧ R' = R) := fun c => S_X11_train_65 hs ⟨fun k => absurd k c, fun _ => ⟨rfl, rfl⟩, rfl⟩
  refine S_X11_train_0 (d1 := 2) (by omega) (c_isPerson hs hq (by omega)) (fun z I1 R1 r => ?_)
  obtain ⟨(hz : z = _), rfl, rfl⟩ := r
  have b := bi_r (0 ≤ q ∧ q < I1 339 4)
  refine S_X11_train_14 (by omega) (fun g => no (fun c => bi_0 (hz.symm.trans g) (by rw [e4]; exact c.1))) (fun g => ?_)
  have c1 := bi_1 (c := 0 ≤ q ∧ q < I1 339 4) (by rw [← hz]; exact g)
  rw [e4] at c1
  refine S_X11_train_17 (d1 := 1) hw (by omega) (c_isIn hw (by decide) (by decide)) (fun z2 I2 R2 r => ?_)
  obtain ⟨(hz2 : z2 = _), rfl, rfl⟩ := r
  have b2 := bi_r (0 ≤ w ∧ w ≤ 8)
  refine S_X11_train_26 (by omega) (fun g2 => no (fun c => bi_0 (hz2.symm.trans g2) ⟨c.2.1.1, by have := c.2.1.2.1; omega⟩)) (fun g2 => ?_)
  have c2 := bi_1 (c := 0 ≤ w ∧ w ≤ 8) (by rw [← hz2]; exact g2)
  refine S_X11_train_29 (d1 := 1) hf (by omega) (c_isIn hf (by decide) (by decide)) (fun z3 I3 R3 r => ?_)
  obtain ⟨(hz3 : z3 = _), rfl, rfl⟩ := r
  have b3 := bi_r (0 ≤ f ∧ f ≤ 3)
  refine S_X11_train_38 (by omega) (fun g3 => no (fun c => bi_0 (hz3.symm.trans g3) c.2.1.2.2)) (fun g3 => ?_)
  have c3 := bi_1 (c := 0 ≤ f ∧ f ≤ 3) (by rw [← hz3]; exact g3)
  have k6 := hK.2.2.2.2.2 q c1.1 c1.2
  have yes : trO D I q w f → PN X 3 mX11_train 77 [(2, 306), (9, 0), (0, w), (0, f), (0, 3 + 5 * q + 2)] [] I3 R3 (fun v I' R' => (trO D I q w f → v.2 = 1 ∧ ∃ Ib, KepP I3 Ib ∧ I' = u2 (u2 Ib 348 (3 + 5 * q + 2) w) 348 (3 + 5 * q + 2 + 1) f) ∧ (¬ trO D I q w f → v.2 = 0 ∧ I' = u2 I3 308 2 (I3 308 2 + 1)) ∧ R' = R3) := fun ok => by
    refine S_X11_train_77 (d1 := 0) (by omega) (c_keeps hs h77 h76) (fun z5 Ib R5 r => ?_)
    obtain ⟨k1, k2, k3, k4, rfl⟩ := r
    exact S_X11_train_81 hs (by omega) (by omega) ⟨fun _ => ⟨rfl, Ib, ⟨k1, k2, k3, k4⟩, rfl⟩, fun c => absurd ok c, rfl⟩
  refine S_X11_train_41 hs (by omega) (by rw [h8]; omega) hw (fun g4 => yes ⟨c1, by omega, fun c => g4 (by rw [h8]; exact c.1)⟩) (fun g4 => ?_)
  refine S_X11_train_52 hs (by omega) (by rw [h8, show 3 + 5 * q + 2 + 1 = 3 + 5 * q + 3 by omega]; omega) hf (fun g5 => yes ⟨c1, by omega, fun c => g5 (by rw [h8, show 3 + 5 * q + 2 + 1 = 3 + 5 * q + 3 by omega]; exact c.2)⟩) (fun g5 => no (fun c => c.2.2 ⟨by rw [← h8]; exact g4, by rw [← h8, show 3 + 5 * q + 3 = 3 + 5 * q + 2 + 1 by omega]; exact g5⟩))
theorem c_xtrain0 {X : CX} {I R : PF} {q x y : Int} (hs : Shp R) (hq : inR q) (h3 : inR (I 111 3)) (hc : ¬ (0 ≤ q ∧ q < I 111 3)) : CN X 3 mX10_train [(2, 64), (0, q), (0, x), (0, y)] I R (fun v I' R' => v.2 = 0 ∧ I' = u2 I 66 2 (I 66 2 + 1) ∧ R' = R) := by
  refine callee_b (by decide +kernel) (Nat.le_of_ble_eq_true rfl) rfl ?_
  refine S_X10_train_0 (d1 := 0) hs (by omega) (c_knows kM111 hq h3) (fun z I1 R1 r => ?_)
  obtain ⟨(hz : z = _), rfl, rfl⟩ := r
  rw [bi_f hc] at hz
  exact S_X10_train_8 (by omega) (fun _ => S_X10_train_32 hs ⟨rfl, rfl, rfl⟩) (fun g => absurd hz g)
theorem c_mtrain0 {X : CX} {I R : PF} {q x y : Int} (hs : Shp R) (hq : inR q) (hn : 0 ≤ I 339 4 ∧ I 339 4 ≤ 6) (hc : ¬ (0 ≤ q ∧ q < I 339 4)) : CN X 3 mX11_train [(2, 306), (0, q), (0, x), (0, y)] I R (fun v I' R' => v.2 = 0 ∧ I' = u2 I 308 2 (I 308 2 + 1) ∧ R' = R) := by
  refine callee_b (by decide +kernel) (Nat.le_of_ble_eq_true rfl) rfl ?_
  refine S_X11_train_0 (d1 := 2) (by omega) (c_isPerson hs hq hn) (fun z I1 R1 r => ?_)
  obtain ⟨(hz : z = _), rfl, rfl⟩ := r
  rw [bi_f hc] at hz
  exact S_X11_train_14 (by omega) (fun _ => S_X11_train_65 hs ⟨rfl, rfl, rfl⟩) (fun g => absurd hz g)
theorem b_train {X : CX} {I R : PF} {q x y : Int} (h : Sim I R) (hq : inR q) (hx : inR x) (hy : inR y) : Both X 3 3 mX10_train mX11_train [(0, q), (0, x), (0, y)] I R := by
  obtain ⟨hs, -, -, hm, p, o, hp, hT⟩ := id h
  have hv := h.vw hp
  have b4 := hv.2.1.2.2.2
  have rr := hv.2.2.2.2.2.2.1
  rcases hT with hT | ⟨D, hT⟩
  · have n0 := hT.2.2.2.1.2.1
    exact Both.rfs h (u := 0) (k := 2) (c_xtrain0 hs hq (by unfold inR; omega) (by omega)) (fun J e => c_mtrain0 hs hq (by rw [e _ _ (by decide)]; omega) (by rw [e _ _ (by decide)]; omega))
  obtain ⟨hG, hW, hQ, hL, hST, hK, hS, hP, hE⟩ := id hT
  have hD := hG.2.1
  have h76 := hP.2.2.1
  have h762 := hP.2.2.2.1
  have h77 : 0 ≤ I 306 77 ∧ I 306 77 < 20 := ⟨hm.2.2.2.2.2.2.2.1, hm.2.2.2.2.2.2.2.2⟩
  by_cases ok : trO D I q x y
  · refine Callee.mono (c_xtrain h hp hT hq hx hy) (fun v I1 R1 r => ?_)
    obtain ⟨r1, -, rfl⟩ := r
    obtain ⟨v1, Ia, ra, e1⟩ := r1 ok
    have fa : FR (fun a b => a = 113 + q ∧ (b = 5 ∨ b = 6)) Ia I1 := by
      rw [e1]
      exact (FR_u2 ⟨by omega, Or.inl rfl⟩).tr (FR_u2 ⟨by omega, Or.inr rfl⟩)
    have f1 : FR (fun a b => reC (I 136 4) a b ∨ (a = 113 + q ∧ (b = 5 ∨ b = 6))) I I1 := (ra.2.2.2.2.mono (fun x y c => Or.inl c)).tr (fa.mono (fun x y c => Or.inr c))
    have c4 := hm.2.2.2.2.2.2.1
    have q0 := ok.1
    have n : ∀ a b, (303 ≤ a ∨ a ≤ 112) → I1 a b = I a b := fun a b c => f1 a b (fun d => by unfold reC stC at d; omega)
    refine Callee.mono (c_mtrain (I := I) hs (hST.cg hG (fun y c => n _ _ (by decide)) (fun y c => n _ _ (by decide)) (fun y c => n _ _ (by decide)) (fun y c => n _ _ (by decide)) (fun y c => n _ _ (by decide)) (fun y c => n _ _ (by decide)) (fun x y c c2 => n _ _ (by omega)) (fun y c => n _ _ (by decide))) (funext fun y => n _ _ (by decide)) hG hK (by rw [n _ _ (by decide)]; exact h77) (by rw [n _ _ (by decide)]; exact ⟨h76, h762⟩) hq hx hy) (fun v' J R2 r => ?_)
    obtain ⟨r2, -, rfl⟩ := r
    obtain ⟨v2, Ib, kb, e2⟩ := r2 ok
    refine ⟨v2.trans v1.symm, ?_⟩
    rw [show 3 + 5 * q + 2 + 1 = 3 + 5 * q + 3 by omega] at e2
    have fb : FR (fun a b => a = 348 ∧ (b = 3 + 5 * q + 2 ∨ b = 3 + 5 * q + 3)) Ib J := by
      rw [e2]
      exact (FR_u2 ⟨rfl, Or.inl rfl⟩).tr (FR_u2 ⟨rfl, Or.inr rfl⟩)
    have fk : FR (fun a b => (a = 306 ∧ (b = 76 ∨ b = 77)) ∨ a = 354) I1 Ib := kb.2.2.2.mono (fun x y c => by unfold keM at c; omega)
    have g : ∀ a b, ¬ (reC (I 136 4) a b ∨ (a = 113 + q ∧ (b = 5 ∨ b = 6)) ∨ (a = 306 ∧ (b = 76 ∨ b = 77)) ∨ a = 354 ∨ (a = 348 ∧ (b = 3 + 5 * q + 2 ∨ b = 3 + 5 * q + 3))) → J a b = I a b := fun a b c =>
      ((fb a b (fun d => c (Or.inr (Or.inr (Or.inr (Or.inr d)))))).trans (fk a b (fun d => c (by rcases d with d | d; exact Or.inr (Or.inr (Or.inl d)); exact Or.inr (Or.inr (Or.inr (Or.inl d))))))).trans (f1 a b (fun d => c (by rcases d with d | d; exact Or.inl d; exact Or.inr (Or.inl d))))
    have j8 : ∀ b, b ≠ 3 + 5 * q + 2 → b ≠ 3 + 5 * q + 3 → J 348 b = I 348 b := fun b c1 c2 => g _ _ (fun d => by unfold reC stC at d; omega)
    have j8x : J 348 (3 + 5 * q + 2) = x := by rw [e2, u2_j (by omega), u2_at]
    have j8y : J 348 (3 + 5 * q + 3) = y := by rw [e2, u2_at]
    have jx : J (113 + q) 5 = x := by
      rw [fb _ _ (by omega), fk _ _ (by omega), e1, u2_j (by decide), show (111 : Int) + 2 + q = 113 + q by omega, u2_at]
    have jy : J (113 + q) 6 = y := by
      rw [fb _ _ (by omega), fk _ _ (by omega), e1, show (111 : Int) + 2 + q = 113 + q by omega, u2_at]
    have j111 : ∀ a b, 111 ≤ a → a ≤ 118 → ¬ (a = 113 + q ∧ (b = 5 ∨ b = 6)) → J a b = I a b := fun a b a0 a1 c => g a b (fun d => by unfold reC stC at d; omega)
    have j342 : ∀ b, J 342 b = I 342 b := fun b => g _ _ (fun d => by unfold reC stC at d; omega)
    have jK : KG D J := hK.tr hG ok.1 ok.2.1 j8 j8x j8y j342
    have hq8 := hS.2 q q0.1 q0.2
    rw [show (111 : Int) + 2 + q = 113 + q by omega] at hq8
    have h136 : J 136 1 = I 136 1 := g _ _ (fun d => by unfold reC stC at d; omega)
    have j138 : ∀ w j, 0 ≤ w → w < 3 → J (138 + w) j = I (138 + w) j := fun w j w0 w1 => g _ _ (fun d => by unfold reC stC at d; omega)
    refine h.two hp hT ra (fa.mono (fun a b c => Or.inr (Or.inl (by omega)))) kb (fb.mono (fun a b c => Or.inr (Or.inl c.1))) FR.rf ?_ ?_ ?_ jK ?_ (by omega) (fun w j w0 w1 _ => j138 w j w0 w1)
    · rw [f1 131 5 (fun d => by unfold reC stC at d; omega)]; exact hm.2.2.2.2.2.1
    · rw [g 303 0 (fun d => by unfold reC stC at d; omega), g 306 78 (fun d => by unfold reC stC at d; omega)]; exact hm.2.2.1
    · refine hS.one (q := q) (fun y y0 y1 => j111 _ _ (by decide) (by decide) (by omega)) (fun y hy => j8 _ (by omega) (by omega)) (fun r y r0 r1 c y0 y1 => j111 _ _ (by omega) (by omega) (by omega)) (fun r y r0 r1 c y0 y1 => j8 _ (by omega) (by omega)) (fun y _ => j342 y) ?_
      rw [jx, jy, j8x, j8y, j111 _ 0 (by omega) (by omega) (by omega), j111 _ 1 (by omega) (by omega) (by omega), j111 _ 2 (by omega) (by omega) (by omega), j111 _ 3 (by omega) (by omega) (by omega), j111 _ 4 (by omega) (by omega) (by omega), j111 _ 7 (by omega) (by omega) (by omega), j342, j342, j342, j8 _ (by omega) (by omega), j8 _ (by omega) (by omega), j8 _ (by omega) (by omega)]
      exact ⟨hq8.1, hq8.2.1, hq8.2.2.1, hq8.2.2.2.1, hq8.2.2.2.2.1, rfl, rfl, hq8.2.2.2.2.2.2.2⟩
    · rw [h136]
      exact hP.1.c2 (fun y c => j8 y (by omega) (by omega)) (fun w j w0 w1 _ => j138 w j w0 w1)
  · refine Both.rfs h (u := 0) (k := 2) (Callee.mono (c_xtrain h hp hT hq hx hy) (fun v I1 R1 r => ?_)) (fun J e => Callee.mono (c_mtrain (I := I) hs (hST.cg hG (fun y c => e _ _ (by decide)) (fun y c => e _ _ (by decide)) (fun y c => e _ _ (by decide)) (fun y c => e _ _ (by decide)) (fun y c => e _ _ (by decide)) (fun y c => e _ _ (by decide)) (fun x y c c2 => e _ _ (by omega)) (fun y c => e _ _ (by decide))) (funext fun y => e _ _ (by decide)) hG hK (by rw [e _ _ (by decide)]; exact h77) (by rw [e _ _ (by decide)]; exact ⟨h76, h762⟩) hq hx hy) (fun v' J2 R2 r => ?_))
    · exact ⟨(r.2.1 ok).1, (r.2.1 ok).2, r.2.2⟩
    · exact ⟨(r.2.1 ok).1, (r.2.1 ok).2, r.2.2⟩
