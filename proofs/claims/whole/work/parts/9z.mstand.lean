/-! ===== the model's stand; both ===== -/
theorem c_getsMany {X : CX} {I R D K : PF} {q : Int} (hs : Shp R) (hT : ST D I) (h2 : I 342 = K 342) (h8 : I 348 = K 348) (hG : GD D) (hW : WD D) (hK : KG D K) (hsd : sdR (I 306 78)) (hq : inR q) :
    CN X 7 mX11_getsMany [(2, 306), (0, q)] I R (fun v I' R' => v.2 = cnt (fun t => whT D K (K 348 0) t = q) 33 ∧ MdK D K I I' ∧ I' 306 78 = I 306 78 ∧ R' = R) := by
  refine callee_b (by decide +kernel) (Nat.le_of_ble_eq_true rfl) rfl ?_
  have hD := hG.2.1
  have k1 := hK.1
  have lp : ∀ (m k : Nat) (J : PF), 33 - k < m → k ≤ 33 → MdK D K I J → J 306 78 = I 306 78 → PN X 7 mX11_getsMany 4 [(2, 306), (0, q), (0, cnt (fun t => whT D K (K 348 0) t = q) k), (0, (k : Int))] [] J R (fun v I' R' => v.2 = cnt (fun t => whT D K (K 348 0) t = q) 33 ∧ MdK D K I I' ∧ I' 306 78 = I 306 78 ∧ R' = R) := by
    intro m
    induction m with
    | zero => intro k J h; exact absurd h (Nat.not_lt_zero _)
    | succ m ih =>
      intro k J hm hk hM hj
      have cr := cnt_r (fun t => whT D K (K 348 0) t = q) k
      refine S_X11_getsMany_4 (by omega) (fun g => ?_) (fun g => ?_)
      · obtain rfl : k = 33 := by omega
        exact S_X11_getsMany_45 ⟨rfl, hM, hj, rfl⟩
      have ht : 0 ≤ (k : Int) ∧ (k : Int) < 33 := by omega
      refine S_X11_getsMany_10 (d1 := 0) (by omega) (c_mwayOf ht) (fun a J1 S1 r => ?_)
      obtain ⟨(ha : a = _), rfl, rfl⟩ := r
      refine S_X11_getsMany_15 (d1 := 0) (by omega) (c_mforceOf ht) (fun b J1 S1 r => ?_)
      obtain ⟨(hb : b = _), rfl, rfl⟩ := r
      rw [ha, hb]
      refine S_X11_getsMany_19 (d1 := 6) hs (by omega) (by rw [hM.2.2.1]; exact c_tossT (K := K) hs hM.1 hM.2.1 hM.2.2.1 hG hW hK (by unfold bd; omega) ht hM.2.2.2.2) (fun c J2 S2 r => ?_)
      obtain ⟨r1, r2, r3, rfl⟩ := r
      have wr := whoA_r (K := K) (noon := K 348 0) hG (lnd D k)
      have nx := ih (k + 1) J2 (by omega) (by omega) (hM.st r3 r2) (r2.trans hj)
      rw [show ((k + 1 : Nat) : Int) = (k : Int) + 1 by omega] at nx
      refine S_X11_getsMany_28 (by rw [r1]; omega) hq (fun g2 => ?_) (fun g2 => ?_)
      · rw [cnt, cif_f (fun c : whT D K (K 348 0) k = q => g2 (r1.trans c))] at nx
        exact S_X11_getsMany_39 nx
      · rw [cnt, cif_t (show whT D K (K 348 0) k = q from r1.symm.trans g2)] at nx
        exact S_X11_getsMany_36 (S_X11_getsMany_39 nx)
  exact S_X11_getsMany_0 (lp 34 0 I (by decide) (by decide) ⟨hT, h2, h8, FR.rf, hsd⟩ rfl)
theorem dm_v {s X Y : Int} (h0 : 0 ≤ X) (h1 : X < s) (hY : 0 ≤ Y) : 0 ≤ s * Y + X ∧ (s * Y + X).tmod s = X ∧ (s * Y + X).tdiv s = Y := by
  have h : 0 ≤ s * Y := Int.mul_nonneg (by omega) hY
  refine ⟨by omega, ?_, ?_⟩
  · rw [Int.tmod_eq_emod_of_nonneg (by omega), Int.add_comm, Int.add_mul_emod_self_left, Int.emod_eq_of_lt h0 h1]
  · rw [Int.tdiv_eq_ediv_of_nonneg (by omega), Int.add_comm, Int.add_mul_ediv_left _ _ (by omega), Int.ediv_eq_zero_of_lt h0 h1, Int.zero_add]
theorem sqM_5 {D I : PF} (h : ST D I) : I 341 5 = D 341 0 ∧ I 341 6 = D 341 1 := ⟨h.sq.1, h.sq.2.1⟩
theorem c_mstand {XX : CX} {I R D K : PF} {q w : Int} (hs : Shp R) (hT : ST D I) (h2 : I 342 = K 342) (h8 : I 348 = K 348) (hG : GD D) (hW : WD D) (hK : KG D K) (hsd : sdR (I 306 78)) (hq : 0 ≤ q ∧ q < D 339 1) (hw : 0 ≤ w ∧ w ≤ 2) :
    CN XX 8 mX11_stand [(2, 306), (0, q), (0, w)] I R (fun v I' R' => v.2 = staV (stnR D K q) w ∧ FR scM I I' ∧ R' = R) := by
  refine callee_b (by decide +kernel) (Nat.le_of_ble_eq_true rfl) rfl ?_
  have hD := hG.2.1
  obtain ⟨d1', d2', d3', d4', -⟩ := hG.1
  have k1 := hK.1
  have e4 : I 339 4 = D 339 1 := hT.sq.2.2.2.1
  have kpr := hK.pr hG q hq.1 hq.2
  refine S_X11_stand_0 (d1 := 2) (by omega) (c_isPerson hs (by unfold inR; omega) (by omega)) (fun z I1 R1 r => ?_)
  obtain ⟨(hz : z = _), rfl, rfl⟩ := r
  rw [bi_t (by omega)] at hz
  refine S_X11_stand_5 (by omega) (fun g => by omega) (fun _ => ?_)
  refine S_X11_stand_8 (d1 := 1) (by omega) (by omega) (c_isIn (by unfold inR; omega) (by decide) (by decide)) (fun z2 I2 R2 r => ?_)
  obtain ⟨(hz2 : z2 = _), rfl, rfl⟩ := r
  rw [bi_t (by omega)] at hz2
  refine S_X11_stand_17 (by omega) (fun _ => ?_) (fun g => by omega)
  refine S_X11_stand_22 (d1 := 0) (by omega) (callee_b (Q := fun v I' R' => v.2 = K 348 (3 + 5 * q) ∧ I' = I2 ∧ R' = R2) (by decide +kernel) (Nat.le_of_ble_eq_true rfl) rfl (S_X11_columnOf_0 hs (by omega) ⟨by rw [h8], rfl, rfl⟩)) (fun wx I3 R3 r => ?_)
  obtain ⟨(hwx : wx = _), rfl, rfl⟩ := r
  refine S_X11_stand_32 (d1 := 0) (by omega) (callee_b (Q := fun v I' R' => v.2 = K 348 (3 + 5 * q + 1) ∧ I' = I3 ∧ R' = R3) (by decide +kernel) (Nat.le_of_ble_eq_true rfl) rfl (S_X11_rowOf_0 hs (by omega) ⟨by rw [h8], rfl, rfl⟩)) (fun wy I4 R4 r => ?_)
  obtain ⟨(hwy : wy = _), rfl, rfl⟩ := r
  rw [hwx, hwy]
  refine S_X11_stand_39 ?_
  have lp : ∀ (m : Nat) (k X Y be mo bx bz : Int) (J : PF), (D 341 0 * D 341 1 - k).toNat < m → k = D 341 0 * Y + X → 0 ≤ X → X < D 341 0 → 0 ≤ Y → (Y < D 341 1 ∨ Y = D 341 1 ∧ X = 0) → MdK D K I4 J → Bst D K q X Y mo bx bz → (mo = -1 ∧ be = -1 ∨ 0 ≤ mo ∧ be = D 341 0 * bz + bx) →
      PN XX 8 mX11_stand 44 [(2, 306), (0, q), (0, w), (0, be), (0, mo), (0, K 348 (3 + 5 * q)), (0, K 348 (3 + 5 * q + 1)), (0, k)] [] J R4 (fun v I' R' => v.2 = staV (stnR D K q) w ∧ FR scM I4 I' ∧ R' = R4) := by
    intro m
    induction m with
    | zero => intro k X Y be mo bx bz J h; exact absurd h (Nat.not_lt_zero _)
    | succ m ih =>
      intro k X Y be mo bx bz J hm hk hX hX9 hY hYY hM hB hbe
      have mr : -1 ≤ mo ∧ mo ≤ 33 := by rcases hB with ⟨c, -⟩ | ⟨c, c2, -⟩ <;> omega
      obtain ⟨j5, j6⟩ := sqM_5 hM.1
      have pr : 0 ≤ D 341 0 * D 341 1 ∧ D 341 0 * D 341 1 ≤ 81 := ⟨Int.mul_nonneg (by omega) (by omega), by
        have := Int.mul_le_mul (show D 341 0 ≤ 9 by omega) (show D 341 1 ≤ 9 by omega) (by omega) (by omega); omega⟩
      have pY : 0 ≤ D 341 0 * Y ∧ D 341 0 * Y ≤ 81 := ⟨Int.mul_nonneg (by omega) hY, by
        have := Int.mul_le_mul (show D 341 0 ≤ 9 by omega) (show Y ≤ 9 by omega) hY (by omega); omega⟩
      obtain ⟨-, t1, t2⟩ := dm_v hX hX9 hY
      rw [← hk] at t1 t2
      refine S_X11_stand_44 hs (by omega) (by rw [j5, j6]; omega) (fun g => ?_) (fun g => ?_)
      · rw [j5, j6] at g
        have eY : Y = D 341 1 ∧ X = 0 := by
          rcases hYY with c | c
          · have := Int.mul_le_mul_of_nonneg_left (show Y + 1 ≤ D 341 1 by omega) (show 0 ≤ D 341 0 by omega)
            rw [Int.mul_add, Int.mul_one] at this
            omega
          · exact c
        obtain ⟨rfl, rfl⟩ := eY
        have hB9 := hB.all (Int.le_refl _) (show D 341 1 ≤ 9 by omega)
        have hE := stnR_eq hB9 hG hK hq
        obtain ⟨b1, b2, b3, -⟩ := hB9.pos hG hK hq
        obtain ⟨c1, c2, c3, c4⟩ := b3.1
        simp only at c1 c2 c3 c4
        have hbe' : be = D 341 0 * bz + bx := by omega
        obtain ⟨-, u1, u2'⟩ := dm_v c1 c2 c3
        rw [← hbe'] at u1 u2'
        have bY : 0 ≤ D 341 0 * bz ∧ D 341 0 * bz ≤ 81 := ⟨Int.mul_nonneg (by omega) c3, by
          have := Int.mul_le_mul (show D 341 0 ≤ 9 by omega) (show bz ≤ 9 by omega) c3 (by omega); omega⟩
        have fin : ∀ v, v = staV (stnR D K q) w → (v = staV (stnR D K q) w ∧ FR scM I4 J ∧ True) := fun v hv => ⟨hv, hM.2.2.2.1, trivial⟩
        have fin : ∀ v, v = staV (stnR D K q) w → (v = staV (stnR D K q) w ∧ FR scM I4 J ∧ R4 = R4) := fun v hv => ⟨hv, (fin v hv).2.1, rfl⟩
        have hE1 : staV (stnR D K q) w = if w = 2 then mo else if w = 0 then bx else bz := by rw [hE]; rfl
        rw [hE1] at fin ⊢
        refine S_X11_stand_203 (by omega) (fun g2 => ?_) (fun g2 => S_X11_stand_207 hs (by omega) (by omega) (by omega) (S_X11_stand_236 (fin _ ?_)))
        · refine S_X11_stand_218 (by omega) (fun g3 => S_X11_stand_234 (S_X11_stand_236 (fin _ (by rw [if_pos (by omega)])))) (fun g3 => S_X11_stand_223 hs (by omega) (by omega) (by omega) (S_X11_stand_236 (fin _ ?_)))
          rw [if_neg (by omega), if_neg g2, j5, u2']
        · rw [if_neg (by omega), if_pos g2, j5, u1]
      rw [j5, j6] at g
      have eY : Y < D 341 1 := by
        rcases hYY with c | ⟨c, c2⟩
        · exact c
        · rw [hk, c, c2] at g; omega
      have hin : inQ D (X, Y) := ⟨hX, hX9, hY, eY⟩
      have nx : ∀ (L : PF) (be2 mo2 bx2 bz2 : Int), MdK D K I4 L → Bst D K q (X + 1) Y mo2 bx2 bz2 → (mo2 = -1 ∧ be2 = -1 ∨ 0 ≤ mo2 ∧ be2 = D 341 0 * bz2 + bx2) → PN XX 8 mX11_stand 197 [(2, 306), (0, q), (0, w), (0, be2), (0, mo2), (0, K 348 (3 + 5 * q)), (0, K 348 (3 + 5 * q + 1)), (0, k)] [] L R4 (fun v I' R' => v.2 = staV (stnR D K q) w ∧ FR scM I4 I' ∧ R' = R4) := fun L be2 mo2 bx2 bz2 c1 c2 c3 => by
        refine S_X11_stand_197 ?_
        by_cases c : X + 1 = D 341 0
        · exact ih (k + 1) 0 (Y + 1) be2 mo2 bx2 bz2 L (by omega) (by rw [Int.mul_add, Int.mul_one]; omega) (by decide) (by omega) (by omega) (by omega) c1 (c2.row (by omega)) c3
        · exact ih (k + 1) (X + 1) Y be2 mo2 bx2 bz2 L (by omega) (by omega) (by omega) (by omega) hY (by omega) c1 c2 c3
      have n4 : J 339 4 = D 339 1 := hM.1.sq.2.2.2.1
      have hx : inR X := by unfold inR; omega
      have hy : inR Y := by unfold inR; omega
      refine S_X11_stand_63 (d1 := 1) hs (by omega) (by omega) (by omega) (by omega) (by rw [j5, t1, t2]; exact c_standsAtM hs hx hy (by omega) (by rw [n4, hM.2.2.1]; exact hK.pr hG)) (fun z5 J1 S1 r => ?_)
      obtain ⟨(hz5 : z5 = _), rfl, rfl⟩ := r
      rw [n4, hM.2.2.1] at hz5
      have hz5' : z5 = whoK K (D 339 1) X Y := hz5
      rw [j5, t1, t2]
      refine S_X11_stand_93 (d1 := 0) (by omega) (c_isWall hs hM.1.sq hG hx hy) (fun z6 J2 S2 r => ?_)
      obtain ⟨(hz6 : z6 = _), rfl, rfl⟩ := r
      have b := bi_r (wlT D X Y)
      have zr : -1 ≤ z5 ∧ z5 < 6 := by
        rcases fI_fst (fun p => K 348 (3 + 5 * p) = X ∧ K 348 (3 + 5 * p + 1) = Y) (D 339 1) with ⟨a1, a2⟩ | ⟨a1, a2, a3, a4⟩
        · have : z5 = -1 := hz5.trans a1
          omega
        · have : 0 ≤ whoK K (D 339 1) X Y ∧ whoK K (D 339 1) X Y < D 339 1 := ⟨a1, a2⟩
          omega
      have no : ¬ canS D K q X Y → PN XX 8 mX11_stand 197 [(2, 306), (0, q), (0, w), (0, be), (0, mo), (0, K 348 (3 + 5 * q)), (0, K 348 (3 + 5 * q + 1)), (0, k)] [] J2 S2 (fun v I' R' => v.2 = staV (stnR D K q) w ∧ FR scM I4 I' ∧ R' = S2) := fun c => nx J2 be mo bx bz hM (hB.no (fun k => absurd k c)) hbe
      refine S_X11_stand_103 (by omega) (fun g2 => no (fun c => c.2.1 (bi_1 (c := wlT D X Y) (by rw [← hz6]; exact g2)))) (fun g2 => ?_)
      have nw := bi_0 (hz6.symm.trans g2)
      have yes : canS D K q X Y → PN XX 8 mX11_stand 121 [(2, 306), (0, q), (0, w), (0, be), (0, mo), (0, K 348 (3 + 5 * q)), (0, K 348 (3 + 5 * q + 1)), (0, k), (0, X), (0, Y)] [] J2 S2 (fun v I' R' => v.2 = staV (stnR D K q) w ∧ FR scM I4 I' ∧ R' = S2) := fun hc => by
        have hK' := hK.pt hG hq hc
        have f1 : FR (fun a b => a = 348) J2 (u2 (u2 J2 348 (3 + 5 * q) X) 348 (3 + 5 * q + 1) Y) := FR.tr (FR_u2 (P := fun a b => a = 348) rfl) (FR_u2 (P := fun a b => a = 348) rfl)
        have w8 : (u2 (u2 J2 348 (3 + 5 * q) X) 348 (3 + 5 * q + 1) Y) 348 = (ptK K q X Y) 348 := by
          unfold ptK
          funext j
          unfold u2
          rw [hM.2.2.1]
        have hT' : ST D (u2 (u2 J2 348 (3 + 5 * q) X) 348 (3 + 5 * q + 1) Y) := hM.1.go (f1.mono (fun x y c => Or.inr c))
        have w2 : (u2 (u2 J2 348 (3 + 5 * q) X) 348 (3 + 5 * q + 1) Y) 342 = (ptK K q X Y) 342 := by rw [ptK_2, ← hM.2.1]; funext j; exact f1 _ _ (by omega)
        have w78 : (u2 (u2 J2 348 (3 + 5 * q) X) 348 (3 + 5 * q + 1) Y) 306 78 = J2 306 78 := f1 _ _ (by decide)
        refine S_X11_stand_121 (d1 := 7) hs (by omega) (by omega) (by omega) (c_getsMany (K := ptK K q X Y) hs hT' w2 w8 hG hW hK' (by rw [w78]; exact hM.2.2.2.2) (by unfold inR; omega)) (fun z7 J3 S3 r => ?_)
        obtain ⟨(hz7 : z7 = _), ⟨m1, m2, m3, m4, m5⟩, m6, rfl⟩ := r
        rw [ptK_o (by omega) (by omega)] at hz7
        have e7 : z7 = gtN D K q X Y := hz7
        have gr := gtN_r D K q X Y
        -- the person goes back
        have hM3 : MdK D K I4 (u2 (u2 J3 348 (3 + 5 * q) (K 348 (3 + 5 * q))) 348 (3 + 5 * q + 1) (K 348 (3 + 5 * q + 1))) := by
          have f3 : FR (fun a b => a = 348) J3 (u2 (u2 J3 348 (3 + 5 * q) (K 348 (3 + 5 * q))) 348 (3 + 5 * q + 1) (K 348 (3 + 5 * q + 1))) := FR.tr (FR_u2 (P := fun a b => a = 348) rfl) (FR_u2 (P := fun a b => a = 348) rfl)
          have v8 : (u2 (u2 J3 348 (3 + 5 * q) (K 348 (3 + 5 * q))) 348 (3 + 5 * q + 1) (K 348 (3 + 5 * q + 1))) 348 = K 348 := by
            funext j
            by_cases c1 : j = 3 + 5 * q + 1
            · rw [c1, u2_at]
            · rw [u2_j c1]
              by_cases c2 : j = 3 + 5 * q
              · rw [c2, u2_at]
              · rw [u2_j c2, m3, ptK_o c2 c1]
          refine ⟨m1.go (f3.mono (fun x y c => Or.inr c)), ?_, v8, fun x y c => ?_, ?_⟩
          · rw [← ptK_2 K q X Y, ← m2]; funext j; exact f3 _ _ (by omega)
          · by_cases e : x = 348
            · rw [e, v8, ← hM.2.2.1]
              exact hM.2.2.2.1 348 y (fun k => c (by rw [e]; exact k))
            · rw [f3 x y e, m4 x y c, f1 x y e]
              exact hM.2.2.2.1 x y c
          · rw [f3 306 78 (by decide)]; exact m5
        refine S_X11_stand_152 hs (by omega) (by omega) (by omega) (by omega) (fun g3 => ?_) (fun g3 => ?_)
        · rw [e7] at g3 ⊢
          exact S_X11_stand_190 (nx _ k _ X Y hM3 (hB.gt hc g3) (Or.inr ⟨gr.1, hk⟩))
        · exact S_X11_stand_187 (nx _ be mo bx bz hM3 (hB.no (fun _ => by omega)) hbe)
      refine S_X11_stand_106 (by omega) (fun g3 => yes ⟨hin, nw, Or.inl (hz5'.symm.trans g3)⟩) (fun g3 => ?_)
      refine S_X11_stand_112 (by omega) (by omega) (fun g4 => yes ⟨hin, nw, Or.inr (hz5'.symm.trans g4)⟩) (fun g4 => S_X11_stand_118 (no (fun c => ?_)))
      rcases c.2.2 with c | c
      · exact g3 (hz5'.trans c)
      · exact g4 (hz5'.trans c)
  exact lp _ 0 0 0 (-1) (-1) 0 0 I4 (Nat.lt_succ_self _) (by rw [Int.mul_zero]; rfl) (by decide) (by omega) (by decide) (Or.inl (by omega)) ⟨hT, h2, h8, FR.rf, hsd⟩ (Or.inl ⟨rfl, fun x y hl => by have h1 := hl.1; have h2 := hl.2; unfold inQ at h1; simp only at h1; omega⟩) (Or.inl ⟨rfl, rfl⟩)
theorem c_xstand0 {X : CX} {I R : PF} {q w : Int} (hs : Shp R) (hq : inR q) (hw : inR w) (h3 : inR (I 111 3)) (hc : ¬ ((0 ≤ q ∧ q < I 111 3) ∧ 0 ≤ w ∧ w ≤ 2)) : CN X 8 mX10_stand [(2, 64), (0, q), (0, w)] I R (fun v I' R' => v.2 = -1 ∧ I' = I ∧ R' = R) := by
  refine callee_b (by decide +kernel) (Nat.le_of_ble_eq_true rfl) rfl ?_
  have no : PN X 8 mX10_stand 20 [] [] I R (fun v I' R' => v.2 = -1 ∧ I' = I ∧ R' = R) := S_X10_stand_20 ⟨rfl, rfl, rfl⟩
  refine S_X10_stand_0 (d1 := 0) hs (by omega) (c_knows kM111 hq h3) (fun z I1 R1 r => ?_)
  obtain ⟨(hz : z = _), rfl, rfl⟩ := r
  have b := bi_r (0 ≤ q ∧ q < I1 111 3)
  refine S_X10_stand_8 (by omega) (fun _ => no) (fun g => ?_)
  have c := bi_1 (by rw [← hz]; exact g)
  exact S_X10_stand_11 hw (fun _ => no) (fun g1 => S_X10_stand_15 hw (fun g2 => absurd ⟨c, g1, g2⟩ hc) (fun _ => no))
theorem c_mstand0 {X : CX} {I R : PF} {q w : Int} (hs : Shp R) (hq : inR q) (hw : inR w) (hn : 0 ≤ I 339 4 ∧ I 339 4 ≤ 6) (hc : ¬ ((0 ≤ q ∧ q < I 339 4) ∧ 0 ≤ w ∧ w ≤ 2)) : CN X 8 mX11_stand [(2, 306), (0, q), (0, w)] I R (fun v I' R' => v.2 = -1 ∧ I' = I ∧ R' = R) := by
  refine callee_b (by decide +kernel) (Nat.le_of_ble_eq_true rfl) rfl ?_
  have no : PN X 8 mX11_stand 20 [] [] I R (fun v I' R' => v.2 = -1 ∧ I' = I ∧ R' = R) := S_X11_stand_20 ⟨rfl, rfl, rfl⟩
  refine S_X11_stand_0 (d1 := 2) (by omega) (c_isPerson hs hq hn) (fun z I1 R1 r => ?_)
  obtain ⟨(hz : z = _), rfl, rfl⟩ := r
  have b := bi_r (0 ≤ q ∧ q < I1 339 4)
  refine S_X11_stand_5 (by omega) (fun _ => no) (fun g => ?_)
  have c := bi_1 (by rw [← hz]; exact g)
  refine S_X11_stand_8 (d1 := 1) hw (by omega) (c_isIn hw (by decide) (by decide)) (fun z2 I2 R2 r => ?_)
  obtain ⟨(hz2 : z2 = _), rfl, rfl⟩ := r
  have b2 := bi_r (0 ≤ w ∧ w ≤ 2)
  refine S_X11_stand_17 (by omega) (fun g2 => ?_) (fun _ => no)
  exact absurd ⟨c, bi_1 (by rw [← hz2]; exact g2)⟩ hc
theorem b_stand {X : CX} {I R : PF} {q w : Int} (h : Sim I R) (hq : inR q) (hw : inR w) : Both X 8 8 mX10_stand mX11_stand [(0, q), (0, w)] I R := by
  obtain ⟨hs, -, -, hm, p, o, hp, hT⟩ := id h
  have hv := h.vw hp
  have b4 := hv.2.1.2.2.2
  have r := hv.2.2.2.2.2.2.1
  by_cases hc : (0 ≤ q ∧ q < I 339 4) ∧ 0 ≤ w ∧ w ≤ 2
  · rcases hT with hT | ⟨D, hT⟩
    · have := hT.2.2.2.1.2.1; omega
    have e4 : I 339 4 = D 339 1 := hT.2.2.2.2.1.sq.2.2.2.1
    have hpp : p = 72 ∨ p = 91 := by rcases hp.2.2 with ⟨c, -⟩ | ⟨c, -⟩ <;> omega
    refine Both.fly (D := D) (u := staV (stnR D I q) w) h hp (Callee.mono (c_xstand hs hp hT hm.2.2.2.2.2.1 ⟨hc.1.1, by omega⟩ hc.2) (fun v I' R' q => ?_)) hT (fun J S s1 s2 s3 s4 s5 s6 s7 => c_mstand (K := I) s1 s2 s3 s4 hT.1 hT.2.1 hT.2.2.2.2.2.1 s5 ⟨hc.1.1, by omega⟩ hc.2)
    obtain ⟨q1, q2, q3, q4⟩ := q
    have n : ∀ x y, (x = 348 ∨ x = 342) → I' x y = I x y := fun x y hx => q3 x y (fun c => by
      rcases c with c | c
      · unfold mQy mFy mSt1 mWd mCa mPr at c; omega
      · unfold stC at c; omega)
    refine ⟨q1, q2, q3.mono (fun x y c => ?_), fun y => n _ _ (Or.inl rfl), fun y => n _ _ (Or.inr rfl), q4⟩
    rcases c with c | c
    · exact Or.inl (mQy_scC c)
    · have c2 : 119 ≤ x ∧ x ≤ 126 := by unfold stC at c; omega
      exact Or.inl (Or.inr (Or.inr (Or.inr (Or.inr (Or.inr (Or.inr (Or.inr (Or.inr (Or.inr (Or.inr (Or.inr (Or.inr (Or.inr (Or.inl c2))))))))))))))
  · exact Both.same h (c_xstand0 hs hq hw (by unfold inR; omega) (by omega)) (c_mstand0 hs hq hw (by omega) hc)
