/-! ===== the class reads a person ===== -/
theorem QR_per {D : PF} {o v x y tall pace law way force : Int} {I I' : PF} (ho : o = 72 ∨ o = 91) (h : QR D o I) (hD : GD D) (h6 : D 339 1 ≠ 6)
    (f : FR (fun a b => a = 67 ∨ (a = o + 2 ∧ b = D 339 1) ∨ (a = o + 11 + 2 + D 339 1 ∧ 0 ≤ b ∧ b ≤ 6) ∨ (a = o + 11 ∧ b = 3)) I I')
    (v0 : I' (o + 2) (D 339 1) = pad v) (w0 : I' (o + 11 + 2 + D 339 1) 0 = x) (w1 : I' (o + 11 + 2 + D 339 1) 1 = y) (w2 : I' (o + 11 + 2 + D 339 1) 2 = tall) (w3 : I' (o + 11 + 2 + D 339 1) 3 = pace) (w4 : I' (o + 11 + 2 + D 339 1) 4 = law) (w5 : I' (o + 11 + 2 + D 339 1) 5 = way) (w6 : I' (o + 11 + 2 + D 339 1) 6 = force) (vc : I' (o + 11) 3 = D 339 1 + 1) :
    QR (u2 (u2 (u2 (u2 (u2 (u2 (u2 (u2 (u2 D 340 (6 + D 339 1) v) 342 (4 * D 339 1) tall) 342 (4 * D 339 1 + 1) pace) 342 (4 * D 339 1 + 2) law) 343 (4 * D 339 1) x) 343 (4 * D 339 1 + 1) y) 343 (4 * D 339 1 + 2) way) 343 (4 * D 339 1 + 3) force) 339 1 (D 339 1 + 1)) o I' := by
  obtain ⟨⟨a1, a2, a3, a4, a5⟩, ⟨b1, b2, b3, b4⟩, c1, c2, c3, c4, c5, c6⟩ := h
  obtain ⟨-, ⟨r1, r2, r3, r4, r5, r6⟩⟩ := hD.r
  generalize hD' : u2 (u2 (u2 (u2 (u2 (u2 (u2 (u2 (u2 D 340 (6 + D 339 1) v) 342 (4 * D 339 1) tall) 342 (4 * D 339 1 + 1) pace) 342 (4 * D 339 1 + 2) law) 343 (4 * D 339 1) x) 343 (4 * D 339 1 + 1) y) 343 (4 * D 339 1 + 2) way) 343 (4 * D 339 1 + 3) force) 339 1 (D 339 1 + 1) = D'
  have e : ∀ x j, x ≠ 339 → x ≠ 340 → x ≠ 342 → x ≠ 343 → D' x j = D x j := fun x j h1 h2 h3 h4 => by rw [← hD', u2_o h1, u2_o h4, u2_o h4, u2_o h4, u2_o h4, u2_o h3, u2_o h3, u2_o h3, u2_o h2]
  have e0 : D' 339 1 = D 339 1 + 1 := by rw [← hD', u2_at]
  have e3 : ∀ j, j ≠ 1 → D' 339 j = D 339 j := fun j h1 => by
    rw [← hD', u2_j h1]
    iterate 8 rw [u2_o (by decide)]
  have e4 : ∀ j, j ≠ 6 + D 339 1 → D' 340 j = D 340 j := fun j h1 => by
    rw [← hD']
    iterate 8 rw [u2_o (by decide)]
    rw [u2_j h1]
  have e5 : D' 340 (6 + D 339 1) = v := by
    rw [← hD']
    iterate 8 rw [u2_o (by decide)]
    rw [u2_at]
  have f4 : ∀ j, j < 4 * D 339 1 → D' 342 j = D 342 j := fun j h1 => by
    rw [← hD']
    iterate 5 rw [u2_o (by decide)]
    rw [u2_j (by omega), u2_j (by omega), u2_j (by omega), u2_o (by decide)]
  have f0 : D' 342 (4 * D 339 1) = tall := by
    rw [← hD']
    iterate 5 rw [u2_o (by decide)]
    rw [u2_j (by omega), u2_j (by omega), u2_at]
  have f1 : D' 342 (4 * D 339 1 + 1) = pace := by
    rw [← hD']
    iterate 5 rw [u2_o (by decide)]
    rw [u2_j (by omega), u2_at]
  have f2 : D' 342 (4 * D 339 1 + 2) = law := by
    rw [← hD']
    iterate 5 rw [u2_o (by decide)]
    rw [u2_at]
  have g4 : ∀ j, j < 4 * D 339 1 → D' 343 j = D 343 j := fun j h1 => by rw [← hD', u2_o (by decide), u2_j (by omega), u2_j (by omega), u2_j (by omega), u2_j (by omega), u2_o (by decide), u2_o (by decide), u2_o (by decide), u2_o (by decide)]
  have g0 : D' 343 (4 * D 339 1) = x := by rw [← hD', u2_o (by decide), u2_j (by omega), u2_j (by omega), u2_j (by omega), u2_at]
  have g1 : D' 343 (4 * D 339 1 + 1) = y := by rw [← hD', u2_o (by decide), u2_j (by omega), u2_j (by omega), u2_at]
  have g2 : D' 343 (4 * D 339 1 + 2) = way := by rw [← hD', u2_o (by decide), u2_j (by omega), u2_at]
  have g3 : D' 343 (4 * D 339 1 + 3) = force := by rw [← hD', u2_o (by decide), u2_at]
  have e30 := e3 0 (by decide)
  have e32 := e3 2 (by decide)
  have ew : ∀ x y, wlT D' x y ↔ wlT D x y := wlT_c e32 (fun j => e 344 j (by decide) (by decide) (by decide) (by decide))
  refine ⟨?_, ?_, fun k k0 k1 => ?_, fun k k0 k1 => ?_, fun j j0 j1 => ?_, fun x y x0 x1 y0 y1 => ?_, fun p p0 p1 => ?_, fun w hw => ?_⟩
  · have e341 : ∀ j, D' 341 j = D 341 j := fun j => e 341 j (by decide) (by decide) (by decide) (by decide)
    simp only [e341, f o 0 (by omega), f o 1 (by omega), f o 2 (by omega), f o 3 (by omega), f o 4 (by omega)]; exact ⟨a1, a2, a3, a4, a5⟩
  · rw [vc, e0, f o 5 (by omega), e30, f o 6 (by omega), e32, f o 7 (by omega), e 306 48 (by decide) (by decide) (by decide) (by decide)]; exact ⟨b1, b2, b3, rfl⟩
  · rw [f (o + 1) k (by omega), e4 k (by omega)]; exact c1 k k0 (by omega)
  · by_cases c : k = D 339 1
    · rw [c, v0, e5]
    · rw [f (o + 2) k (by omega), e4 _ (by omega)]; exact c2 k k0 (by omega)
  · rw [f (o + 3) j (by omega)]; exact c3 j j0 j1
  · rw [f (o + 3) _ (by omega), ew]; exact c4 x y x0 x1 y0 y1
  · by_cases c : p = D 339 1
    · rw [c, w0, w1, w2, w3, w4, w5, w6, g0, g1, g2, g3, f0, f1, f2]; exact ⟨rfl, rfl, rfl, rfl, rfl, rfl, rfl⟩
    · have g : ∀ y, I' (o + 11 + 2 + p) y = I (o + 11 + 2 + p) y := fun y => f _ y (by omega)
      rw [g, g, g, g, g, g, g, g4 _ (by omega), g4 _ (by omega), g4 _ (by omega), g4 _ (by omega), f4 _ (by omega), f4 _ (by omega), f4 _ (by omega)]
      exact c5 p p0 (by omega)
  · have g : ∀ y, I' (o + 5 + 3 * w) y = I (o + 5 + 3 * w) y := fun y => f _ y (by omega)
    have g' : ∀ y, I' (o + 5 + 3 * w + 1) y = I (o + 5 + 3 * w + 1) y := fun y => f _ y (by omega)
    have e345 : ∀ j, D' 345 j = D 345 j := fun j => e 345 j (by decide) (by decide) (by decide) (by decide)
    have e346 : ∀ j, D' 346 j = D 346 j := fun j => e 346 j (by decide) (by decide) (by decide) (by decide)
    have e347 : ∀ j, D' 347 j = D 347 j := fun j => e 347 j (by decide) (by decide) (by decide) (by decide)
    simp only [g, g', e345, e346, e347]; exact c6 w hw
/-- behind the law's name: how he throws -/
theorem c_readThrow {X : CX} {I R : PF} {t : Int → Int} {n o m a : Int} {q9 : Int × Bool} (hs : Shp R) (r110 : R 110 2 = o) (hk : kd MF o = 6) (hm : 0 ≤ m ∧ m < 6) (ha : a = o + 11 + 2 + m) (hc : I (o + 11) 3 = m) (h : DSt t n (.inl q9) I R) :
    CN X 3 mX7_readThrow [(2, 110), (2, a)] I R (fun v I' R' =>
      (match (if tw t n (.inl q9) = 281319642 then numS t n 0 3 (askC t n 94421673 (numS t n 0 8 (goT t n (.inl q9)))) else .inl q9) with
      | .inl q' => v.2 = 1 ∧ DSt t n (.inl q') I' R' ∧ I' a 5 = (if tw t n (.inl q9) = 281319642 then vN t n (goT t n (.inl q9)) else 0) ∧ I' a 6 = (if tw t n (.inl q9) = 281319642 then vN t n (askC t n 94421673 (numS t n 0 8 (goT t n (.inl q9)))) else 0) ∧ I' (o + 11) 3 = m + 1
      | .inr f => v.2 = 0 ∧ DSt t n (.inr f) I' R') ∧ FR (fun x y => sF x y ∨ (x = a ∧ (y = 5 ∨ y = 6)) ∨ (x = o + 11 ∧ y = 3)) I I' ∧ FR sR R R') := by
  refine callee_b (by decide +kernel) (Nat.le_of_ble_eq_true rfl) rfl ?_
  have ho := sq_o hk
  obtain ⟨ka, la⟩ := stR (sq11 hk) hm.1 hm.2
  rw [← ha] at ka la
  have w1 : (u2 (u2 I a 5 0) a 6 0) (o + 11) 3 = m := by rw [u2_o (by omega), u2_o (by omega)]; exact hc
  have fS : ∀ {J K : PF}, FR sF J K → FR (fun x y => sF x y ∨ (x = a ∧ (y = 5 ∨ y = 6)) ∨ (x = o + 11 ∧ y = 3)) J K := fun h => h.mono (fun x y c => Or.inl c)
  have f0 : FR (fun x y => sF x y ∨ (x = a ∧ (y = 5 ∨ y = 6)) ∨ (x = o + 11 ∧ y = 3)) I (u2 (u2 (u2 I a 5 0) a 6 0) (o + 11) 3 (m + 1)) := FR.tr (FR.tr (FR_u2 (Or.inr (Or.inl ⟨rfl, Or.inl rfl⟩))) (FR_u2 (Or.inr (Or.inl ⟨rfl, Or.inr rfl⟩)))) (FR_u2 (Or.inr (Or.inr ⟨rfl, rfl⟩)))
  have d0 : DSt t n (.inl q9) (u2 (u2 (u2 I a 5 0) a 6 0) (o + 11) 3 (m + 1)) R := ((h.u (by omega) (by omega)).u (by omega) (by omega)).u (by omega) (by omega)
  have v5 : (u2 (u2 (u2 I a 5 0) a 6 0) (o + 11) 3 (m + 1)) a 5 = 0 := by rw [u2_o (by omega), u2_j (by decide), u2_at]
  have v6 : (u2 (u2 (u2 I a 5 0) a 6 0) (o + 11) 3 (m + 1)) a 6 = 0 := by rw [u2_o (by omega), u2_at]
  have v3 : (u2 (u2 (u2 I a 5 0) a 6 0) (o + 11) 3 (m + 1)) (o + 11) 3 = m + 1 := u2_at
  have cspin : sW 0 12 = 281319642 := by decide
  refine S_X7_readThrow_0 (d1 := 0) (Q1 := fun v I' R' => v.2 = bi (tw t n (.inl q9) = sW 0 12) ∧ I' = (u2 (u2 (u2 I a 5 0) a 6 0) (o + 11) 3 (m + 1)) ∧ R' = R) hs ka ⟨by decide, by omega⟩ (by omega) ⟨by decide, by omega⟩ r110 hk (by omega) (by rw [w1]; exact c_isWord d0.1 (by decide)) (fun z I1 R1 p => ?_)
  obtain ⟨(hz : z = _), rfl, rfl⟩ := p
  rw [cspin] at hz
  generalize u2 (u2 (u2 I a 5 0) a 6 0) (o + 11) 3 (m + 1) = J at f0 d0 v5 v6 v3
  have br := bi_r (tw t n (.inl q9) = 281319642)
  refine S_X7_readThrow_35 (by omega) (fun g => ?_) (fun g => ?_)
  rotate_left
  · have c := bi_0 (hz.symm.trans g)
    rw [if_neg c, if_neg c, if_neg c]
    exact S_X7_readThrow_38 ⟨⟨rfl, d0, v5, v6, v3⟩, f0, FR.rf⟩
  have c := bi_1 (by rw [← hz]; exact g)
  rw [if_pos c, if_pos c, if_pos c]
  have eg : goT t n (.inl q9) = .inl (run isL t n (skp t n q9.1), true) := rfl
  rw [eg]
  refine S_X7_readThrow_40 (d1 := 1) hs (by omega) (c_advW hs d0 c (by decide)) (fun z I2 R2 p => ?_)
  obtain ⟨p1, -, p2, p3⟩ := p
  have hs2 := hs.fr (sR_mR p3)
  refine S_X7_readThrow_47 (d1 := 2) hs2 (by omega) (c_takeNumber hs2 p1 (by decide) (by decide)) (fun x I3 R3 p => ?_)
  obtain ⟨k1, k2, k3⟩ := p
  have hs3 := hs2.fr (sR_mR k3)
  have ex : (u2 I3 a 5 x) a 5 = x := u2_at
  have f3 : FR (fun x y => sF x y ∨ (x = a ∧ (y = 5 ∨ y = 6)) ∨ (x = o + 11 ∧ y = 3)) I (u2 I3 a 5 x) := ((f0.tr (fS p2)).tr (fS k2)).tr (FR_u2 (Or.inr (Or.inl ⟨rfl, Or.inl rfl⟩)))
  unfold NRes at k1
  cases hN : numS t n 0 8 (.inl (run isL t n (skp t n q9.1), true)) with
  | inr f =>
    rw [hN] at k1
    obtain ⟨(m1 : x = _), m2⟩ := k1
    have e1 : numS t n 0 3 (askC t n 94421673 (.inr f)) = .inr f := by rw [askC_f (by decide)]; rfl
    rw [e1]
    refine S_X7_readThrow_59 ka ⟨by decide, by omega⟩ (by omega) ka ⟨by decide, by omega⟩ (by omega) (by rw [ex, m1]; decide) (fun _ => ?_) (fun g => absurd (ex.trans m1) g)
    exact S_X7_readThrow_80 ⟨⟨rfl, m2.u (by omega) (by omega)⟩, f3, p3.tr k3⟩
  | inl qa =>
    rw [hN] at k1
    obtain ⟨(m1 : x = _), m2, m3, -, m5⟩ := k1
    simp only at m2 m3
    refine S_X7_readThrow_59 ka ⟨by decide, by omega⟩ (by omega) ka ⟨by decide, by omega⟩ (by omega) (by rw [ex]; omega) (fun g => by omega) (fun _ => ?_)
    have cf : sW 0 13 = 94421673 := by decide
    refine S_X7_readThrow_67 (d1 := 2) hs3 (by omega) (c_takeWord hs3 (m5.u (by omega) (by omega)) (w := 13) (by decide)) (fun z I4 R4 p => ?_)
    obtain ⟨(hz : z = _), j1, j2, j3⟩ := p
    rw [cf] at hz j1
    have hs4 := hs3.fr (sR_mR j3)
    have br := bi_r (tw t n (.inl qa) = 94421673)
    refine S_X7_readThrow_77 (by omega) (fun g => ?_) (fun g => ?_)
    rotate_left
    · have c2 := bi_0 (hz.symm.trans g)
      have e1 : askC t n 94421673 (.inl qa) = .inr (1, skp t n qa.1) := by unfold askC; rw [if_neg c2]; rfl
      rw [e1] at j1 ⊢
      exact S_X7_readThrow_80 ⟨⟨rfl, j1⟩, f3.tr (fS j2), (p3.tr k3).tr j3⟩
    have c2 := bi_1 (by rw [← hz]; exact g)
    have e1 : askC t n 94421673 (.inl qa) = .inl (run isL t n (skp t n qa.1), true) := by unfold askC; rw [if_pos c2]; rfl
    rw [e1] at j1 ⊢
    refine S_X7_readThrow_82 (d1 := 2) hs4 (by omega) (c_takeNumber hs4 j1 (by decide) (by decide)) (fun y I5 R5 p => ?_)
    obtain ⟨i1, i2, i3⟩ := p
    have ey : (u2 I5 a 6 y) a 6 = y := u2_at
    have f5 : FR (fun x y => sF x y ∨ (x = a ∧ (y = 5 ∨ y = 6)) ∨ (x = o + 11 ∧ y = 3)) I (u2 I5 a 6 y) := ((f3.tr (fS j2)).tr (fS i2)).tr (FR_u2 (Or.inr (Or.inl ⟨rfl, Or.inr rfl⟩)))
    have e5 : (u2 I5 a 6 y) a 5 = x := by rw [u2_j (by decide), i2 a 5 (fun c => by unfold sF at c; omega), j2 a 5 (fun c => by unfold sF at c; omega)]; exact ex
    have e3 : (u2 I5 a 6 y) (o + 11) 3 = m + 1 := by
      rw [u2_o (by omega), i2 _ _ (fun c => by unfold sF at c; omega), j2 _ _ (fun c => by unfold sF at c; omega), u2_o (by omega), k2 _ _ (fun c => by unfold sF at c; omega), p2 _ _ (fun c => by unfold sF at c; omega)]
      exact v3
    unfold NRes at i1
    cases hN2 : numS t n 0 3 (.inl (run isL t n (skp t n qa.1), true)) with
    | inr f =>
      rw [hN2] at i1
      obtain ⟨(m1 : y = _), m2⟩ := i1
      refine S_X7_readThrow_94 ka ⟨by decide, by omega⟩ (by omega) ka ⟨by decide, by omega⟩ (by omega) (by rw [ey, m1]; decide) (fun _ => ?_) (fun g => absurd (ey.trans m1) g)
      exact S_X7_readThrow_107 (S_X7_readThrow_108 (by decide) ⟨⟨rfl, m2.u (by omega) (by omega)⟩, f5, ((p3.tr k3).tr j3).tr i3⟩)
    | inl q' =>
      rw [hN2] at i1
      obtain ⟨(n1 : y = _), n2, n3, -, n5⟩ := i1
      simp only at n2 n3
      refine S_X7_readThrow_94 ka ⟨by decide, by omega⟩ (by omega) ka ⟨by decide, by omega⟩ (by omega) (by rw [ey]; omega) (fun g => by omega) (fun _ => ?_)
      exact S_X7_readThrow_103 (S_X7_readThrow_108 (by decide) ⟨⟨rfl, n5.u (by omega) (by omega), e5.trans m1, ey.trans n1, e3⟩, f5, ((p3.tr k3).tr j3).tr i3⟩)
theorem prZ_f {t : Int → Int} {n : Int} {D : PF} {s : SA} {f : Int × Int} (h : pr9 t n D s = .inr f) : prZ t n D s = .inr f := by
  unfold prZ
  rw [h, if_neg (show ¬ tw t n (.inr f) = 281319642 from fun e => absurd (show (0 : Int) = 281319642 from e) (by decide))]
theorem c_readPerson {X : CX} {I R : PF} {t : Int → Int} {n o : Int} {q : Int × Bool} {D : PF} (hs : Shp R) (h : QG t n (.inl q) D o I R) (hb : behT t n q = (run isL t n (skp t n q.1), true)) :
    CN X 4 mX7_readPerson [(2, 110)] I R (fun v I' R' => QRes t n (perS t n D (skp t n q.1) (goT t n (.inl q))) (perD t n D (goT t n (.inl q))) o v.2 I' R' ∧ FR (dP o) I I' ∧ FR sR R R') := by
  refine callee_b (by decide +kernel) (Nat.le_of_ble_eq_true rfl) rfl ?_
  have h' := h
  obtain ⟨d1, r110, hk, hQ, hD⟩ := h'
  have ho := sq_o hk
  have e5 : I (o + 11) 3 = D 339 1 := hQ.2.1.2.2.2
  have hr := hD.r
  refine S_X7_readPerson_0 (d1 := 2) hs r110 hk (by omega) (c_takeKind hs d1 (by omega) (by decide)) (fun z I1 R1 p => ?_)
  obtain ⟨p1, p2, p3⟩ := p
  have hs1 := hs.fr (sR_mR p3)
  have eg : goT t n (.inl q) = .inl (run isL t n (skp t n q.1), true) := rfl
  rw [eg]
  generalize hq0 : ((run isL t n (skp t n q.1), true) : Int × Bool) = q0 at *
  unfold perS
  rcases p1 with ⟨c1, (c2 : z = 1), c3⟩ | ⟨c1, (c2 : z = 0), c3⟩
  rotate_left
  · rw [cif_t (by omega)]
    refine S_X7_readPerson_16 (by omega) (fun g => absurd c2 g) (fun _ => ?_)
    exact S_X7_readPerson_19 ⟨⟨rfl, c3⟩, sF_P p2, p3⟩
  have h6 : D 339 1 ≠ 6 := by omega
  rw [cif_f h6]
  rw [hb] at c3
  have G1 : QG t n (.inl q0) D o I1 R1 := h.scan c3 p2 p3
  -- a fault ends it
  have out : ∀ {s9 : SA} {f : Int × Int} {I' R' : PF}, pr9 t n D (.inl q0) = .inr f → DSt t n (.inr f) I' R' → FR sF I I' → FR sR R R' → (fun (v : PV) (I' R' : PF) => QRes t n (prZ t n D (.inl q0)) (perD t n D (.inl q0)) o v.2 I' R' ∧ FR (dP o) I I' ∧ FR sR R R') (0, 0) I' R' := fun {s9 f I' R'} k1 k2 k3 k4 => by
    refine ⟨?_, sF_P k3, k4⟩
    rw [prZ_f k1]
    exact ⟨rfl, k2⟩
  refine S_X7_readPerson_16 (by omega) (fun _ => ?_) (fun g => by omega)
  refine S_X7_readPerson_21 (d1 := 3) (by omega) (c_takeNewName hs1 G1) (fun v I2 R2 p => ?_)
  obtain ⟨k1, k2, k3⟩ := p
  have hs2 := hs1.fr (sR_mR k3)
  have F2 := p2.tr k2
  have S2 := p3.tr k3
  have e2 : pr2 t n D (.inl q0) = askC t n 24977727 (newS t n D (.inl q0)) := rfl
  have e4 : pr4 t n D (.inl q0) = askC t n 287754525 (plaS t n D False (pr2 t n D (.inl q0))) := rfl
  have e6 : pr6 t n D (.inl q0) = askC t n 230176647 (numS t n 0 9 (pr4 t n D (.inl q0))) := rfl
  have e8 : pr8 t n D (.inl q0) = askC t n 65479509 (numS t n 0 2 (pr6 t n D (.inl q0))) := rfl
  have e9 : pr9 t n D (.inl q0) = lawR t n D (pr8 t n D (.inl q0)) := rfl
  have x8 : ∀ f, pr8 t n D (.inl q0) = .inr f → pr9 t n D (.inl q0) = .inr f := fun f k => by rw [e9, k]; exact lawR_f
  have x6 : ∀ f, pr6 t n D (.inl q0) = .inr f → pr9 t n D (.inl q0) = .inr f := fun f k => x8 f (by rw [e8, k]; exact askC_f (by decide))
  have x4 : ∀ f, pr4 t n D (.inl q0) = .inr f → pr9 t n D (.inl q0) = .inr f := fun f k => x6 f (by rw [e6, k]; exact askC_f (by decide))
  have x2 : ∀ f, pr2 t n D (.inl q0) = .inr f → pr9 t n D (.inl q0) = .inr f := fun f k => x4 f (by rw [e4, k, plaS_f]; exact askC_f (by decide))
  cases hN : newS t n D (.inl q0) with
  | inr f =>
    rw [hN] at k1
    obtain ⟨(m1 : v = _), m2⟩ := k1
    refine S_X7_readPerson_25 (by omega) (fun _ => ?_) (fun g => absurd m1 g)
    exact S_X7_readPerson_44 (out (s9 := .inr f) (x2 f (by rw [e2, hN]; exact askC_f (by decide))) m2 F2 S2)
  | inl q1 =>
    rw [hN] at k1
    obtain ⟨(m1 : v = _), m2, m3, G2⟩ := k1
    simp only at m2 m3
    refine S_X7_readPerson_25 (by omega) (fun g => by omega) (fun _ => ?_)
    have ca : sW 0 8 = 24977727 := by decide
    refine S_X7_readPerson_31 (d1 := 2) hs2 (by omega) (c_takeWord hs2 G2.1 (w := 8) (by decide)) (fun z I3 R3 p => ?_)
    obtain ⟨(hz : z = _), j1, j2, j3⟩ := p
    rw [ca] at hz j1
    have hs3 := hs2.fr (sR_mR j3)
    have F3 := F2.tr j2
    have S3 := S2.tr j3
    have br := bi_r (tw t n (.inl q1) = 24977727)
    refine S_X7_readPerson_41 (by omega) (fun g => ?_) (fun g => ?_)
    rotate_left
    · have c := bi_0 (hz.symm.trans g)
      have ek : askC t n 24977727 (.inl q1) = .inr (1, skp t n q1.1) := by unfold askC; rw [if_neg c]; rfl
      rw [ek] at j1
      exact S_X7_readPerson_44 (out (s9 := .inr (1, skp t n q1.1)) (x2 _ (by rw [e2, hN, ek])) j1 F3 S3)
    have c := bi_1 (by rw [← hz]; exact g)
    have ek : askC t n 24977727 (.inl q1) = .inl (run isL t n (skp t n q1.1), true) := by unfold askC; rw [if_pos c]; rfl
    rw [ek] at j1
    have h2 : pr2 t n D (.inl q0) = .inl (run isL t n (skp t n q1.1), true) := by rw [e2, hN, ek]
    generalize ((run isL t n (skp t n q1.1), true) : Int × Bool) = q2 at j1 h2
    have G3 : QG t n (.inl q2) D o I3 R3 := G2.scan j1 j2 j3
    refine S_X7_readPerson_46 (d1 := 3) (by omega) (c_takePlace (w := 0) hs3 G3 (Or.inl rfl)) (fun pl I4 R4 p => ?_)
    obtain ⟨i1, i2, i3⟩ := p
    have hs4 := hs3.fr (sR_mR i3)
    have et : ((0 : Int) ≠ 0) = False := eq_false (by decide)
    rw [et] at i1
    have F4 := F3.tr i2
    have S4 := S3.tr i3
    cases hP : plaS t n D False (.inl q2) with
    | inr f =>
      rw [hP] at i1
      obtain ⟨(n1 : pl = _), n2⟩ := i1
      refine S_X7_readPerson_51 (by omega) (fun _ => ?_) (fun g => absurd n1 g)
      exact S_X7_readPerson_70 (out (s9 := .inr f) (x4 f (by rw [e4, h2, hP]; exact askC_f (by decide))) n2 F4 S4)
    | inl q3 =>
      rw [hP] at i1
      obtain ⟨(n1 : pl = _), G4⟩ := i1
      obtain ⟨y1, y2, y3, y4⟩ := pla_in hP
      have y3 : 0 ≤ valN t n q2 ∧ valN t n q2 < D 341 0 := y3
      refine S_X7_readPerson_51 (by omega) (fun g => by omega) (fun _ => ?_)
      have cb : sW 0 9 = 287754525 := by decide
      refine S_X7_readPerson_57 (d1 := 2) hs4 (by omega) (c_takeWord hs4 G4.1 (w := 9) (by decide)) (fun z I5 R5 p => ?_)
      obtain ⟨(hz : z = _), j1, j2, j3⟩ := p
      rw [cb] at hz j1
      have hs5 := hs4.fr (sR_mR j3)
      have F5 := F4.tr j2
      have S5 := S4.tr j3
      have br := bi_r (tw t n (.inl q3) = 287754525)
      refine S_X7_readPerson_67 (by omega) (fun g => ?_) (fun g => ?_)
      rotate_left
      · have c := bi_0 (hz.symm.trans g)
        have ek : askC t n 287754525 (.inl q3) = .inr (1, skp t n q3.1) := by unfold askC; rw [if_neg c]; rfl
        rw [ek] at j1
        exact S_X7_readPerson_70 (out (s9 := .inr (1, skp t n q3.1)) (x4 _ (by rw [e4, h2, hP, ek])) j1 F5 S5)
      have c := bi_1 (by rw [← hz]; exact g)
      have ek : askC t n 287754525 (.inl q3) = .inl (run isL t n (skp t n q3.1), true) := by unfold askC; rw [if_pos c]; rfl
      rw [ek] at j1
      have h4 : pr4 t n D (.inl q0) = .inl (run isL t n (skp t n q3.1), true) := by rw [e4, h2, hP, ek]
      generalize ((run isL t n (skp t n q3.1), true) : Int × Bool) = q4 at j1 h4
      have G5 : QG t n (.inl q4) D o I5 R5 := G4.scan j1 j2 j3
      refine S_X7_readPerson_72 (d1 := 2) hs5 (by omega) (c_takeNumber hs5 G5.1 (by decide) (by decide)) (fun ta I6 R6 p => ?_)
      obtain ⟨i1, i2, i3⟩ := p
      have hs6 := hs5.fr (sR_mR i3)
      have F6 := F5.tr i2
      have S6 := S5.tr i3
      unfold NRes at i1
      cases hT : numS t n 0 9 (.inl q4) with
      | inr f =>
        rw [hT] at i1
        obtain ⟨(n1 : ta = _), n2⟩ := i1
        refine S_X7_readPerson_82 (by omega) (fun _ => ?_) (fun g => absurd n1 g)
        exact S_X7_readPerson_101 (out (s9 := .inr f) (x6 f (by rw [e6, h4, hT]; exact askC_f (by decide))) n2 F6 S6)
      | inl q5 =>
        rw [hT] at i1
        obtain ⟨(ta1 : ta = _), ta2, ta3, -, d6⟩ := i1
        simp only at ta2 ta3
        have G6 := G5.scan d6 i2 i3
        refine S_X7_readPerson_82 (by omega) (fun g => by omega) (fun _ => ?_)
        have cc : sW 0 10 = 230176647 := by decide
        refine S_X7_readPerson_88 (d1 := 2) hs6 (by omega) (c_takeWord hs6 G6.1 (w := 10) (by decide)) (fun z I7 R7 p => ?_)
        obtain ⟨(hz : z = _), j1, j2, j3⟩ := p
        rw [cc] at hz j1
        have hs7 := hs6.fr (sR_mR j3)
        have F7 := F6.tr j2
        have S7 := S6.tr j3
        have br := bi_r (tw t n (.inl q5) = 230176647)
        refine S_X7_readPerson_98 (by omega) (fun g => ?_) (fun g => ?_)
        rotate_left
        · have c := bi_0 (hz.symm.trans g)
          have ek : askC t n 230176647 (.inl q5) = .inr (1, skp t n q5.1) := by unfold askC; rw [if_neg c]; rfl
          rw [ek] at j1
          exact S_X7_readPerson_101 (out (s9 := .inr (1, skp t n q5.1)) (x6 _ (by rw [e6, h4, hT, ek])) j1 F7 S7)
        have c := bi_1 (by rw [← hz]; exact g)
        have ek : askC t n 230176647 (.inl q5) = .inl (run isL t n (skp t n q5.1), true) := by unfold askC; rw [if_pos c]; rfl
        rw [ek] at j1
        have h6' : pr6 t n D (.inl q0) = .inl (run isL t n (skp t n q5.1), true) := by rw [e6, h4, hT, ek]
        generalize ((run isL t n (skp t n q5.1), true) : Int × Bool) = q6 at j1 h6'
        have G7 : QG t n (.inl q6) D o I7 R7 := G6.scan j1 j2 j3
        refine S_X7_readPerson_103 (d1 := 2) hs7 (by omega) (c_takeNumber hs7 G7.1 (by decide) (by decide)) (fun pa I8 R8 p => ?_)
        obtain ⟨i1, i2, i3⟩ := p
        have hs8 := hs7.fr (sR_mR i3)
        have F8 := F7.tr i2
        have S8 := S7.tr i3
        unfold NRes at i1
        cases hPa : numS t n 0 2 (.inl q6) with
        | inr f =>
          rw [hPa] at i1
          obtain ⟨(n1 : pa = _), n2⟩ := i1
          refine S_X7_readPerson_112 (by omega) (fun _ => ?_) (fun g => absurd n1 g)
          exact S_X7_readPerson_133 (out (s9 := .inr f) (x8 f (by rw [e8, h6', hPa]; exact askC_f (by decide))) n2 F8 S8)
        | inl q7 =>
          rw [hPa] at i1
          obtain ⟨(pa1 : pa = _), pa2, pa3, -, d8⟩ := i1
          simp only at pa2 pa3
          have G8 := G7.scan d8 i2 i3
          refine S_X7_readPerson_112 (by omega) (fun g => by omega) (fun _ => ?_)
          have cd : sW 0 11 = 65479509 := by decide
          refine S_X7_readPerson_120 (d1 := 2) hs8 (by omega) (c_takeWord hs8 G8.1 (w := 11) (by decide)) (fun z I9 R9 p => ?_)
          obtain ⟨(hz : z = _), j1, j2, j3⟩ := p
          rw [cd] at hz j1
          have hs9 := hs8.fr (sR_mR j3)
          have F9 := F8.tr j2
          have S9 := S8.tr j3
          have br := bi_r (tw t n (.inl q7) = 65479509)
          refine S_X7_readPerson_130 (by omega) (fun g => ?_) (fun g => ?_)
          rotate_left
          · have c := bi_0 (hz.symm.trans g)
            have ek : askC t n 65479509 (.inl q7) = .inr (1, skp t n q7.1) := by unfold askC; rw [if_neg c]; rfl
            rw [ek] at j1
            exact S_X7_readPerson_133 (out (s9 := .inr (1, skp t n q7.1)) (x8 _ (by rw [e8, h6', hPa, ek])) j1 F9 S9)
          have c := bi_1 (by rw [← hz]; exact g)
          have ek : askC t n 65479509 (.inl q7) = .inl (run isL t n (skp t n q7.1), true) := by unfold askC; rw [if_pos c]; rfl
          rw [ek] at j1
          have h8 : pr8 t n D (.inl q0) = .inl (run isL t n (skp t n q7.1), true) := by rw [e8, h6', hPa, ek]
          generalize ((run isL t n (skp t n q7.1), true) : Int × Bool) = q8 at j1 h8
          have G9 : QG t n (.inl q8) D o I9 R9 := G8.scan j1 j2 j3
          refine S_X7_readPerson_135 (d1 := 3) (by omega) (c_takeLaw hs9 G9) (fun la Ia Ra p => ?_)
          obtain ⟨i1, i2, i3⟩ := p
          have hsa := hs9.fr (sR_mR i3)
          have Fa := F9.tr i2
          have Sa := S9.tr i3
          cases hL : lawR t n D (.inl q8) with
          | inr f =>
            rw [hL] at i1
            obtain ⟨(n1 : la = _), n2⟩ := i1
            refine S_X7_readPerson_139 (by omega) (fun g => absurd n1 g) (fun _ => ?_)
            exact S_X7_readPerson_147 (out (s9 := .inr f) (by rw [e9, h8, hL]) n2 Fa Sa)
          | inl q9 =>
            rw [hL] at i1
            obtain ⟨(la1 : la = _), la2, la3, Ga⟩ := i1
            simp only at la2 la3
            have h9 : pr9 t n D (.inl q0) = .inl q9 := by rw [e9, h8, hL]
            refine S_X7_readPerson_139 (by omega) (fun _ => ?_) (fun g => by omega)
            have eP : Ia (o + 11) 3 = D 339 1 := Ga.2.2.2.1.2.1.2.2.2
            have ka := stR (sq11 hk) hr.2.2.2.1 (show D 339 1 < 6 by omega)
            have eP2 : (u2 Ia (o + 2) (Ia (o + 11) 3) v) (o + 11) 3 = D 339 1 := by rw [u2_o (by omega)]; exact eP
            have plr : 0 ≤ pl ∧ pl < 81 := by omega
            have dv9 : pl.tmod 9 = valN t n q2 ∧ pl.tdiv 9 = vN t n (plaX t n D (.inl q2)) := by
              rw [Int.tmod_eq_emod_of_nonneg (by omega), Int.tdiv_eq_ediv_of_nonneg (by omega)]
              omega
            have mr : 0 ≤ D 339 1 ∧ D 339 1 < 6 := by omega
            have k15 := st1 (sq11 hk)
            have n15 := st1n (sq11 hk)
            have rr : Ra (o + 11 + 1) ((u2 Ia (o + 2) (Ia (o + 11) 3) v) (o + 11) 3) = o + 11 + 2 + D 339 1 := by rw [eP2]; exact sh8_r hsa (sq11 hk) mr.1 mr.2
            have JJ : ∀ K : PF, K = (u2 (u2 (u2 (u2 (u2 (u2 Ia (o + 2) (D 339 1) v) (o + 11 + 2 + D 339 1) 0 (pl.tmod 9)) (o + 11 + 2 + D 339 1) 1 (pl.tdiv 9)) (o + 11 + 2 + D 339 1) 2 ta) (o + 11 + 2 + D 339 1) 3 pa) (o + 11 + 2 + D 339 1) 4 la) →
                DSt t n (.inl q9) K Ra ∧ K (o + 11) 3 = D 339 1 ∧ K (o + 2) (D 339 1) = v ∧ K (o + 11 + 2 + D 339 1) 0 = valN t n q2 ∧ K (o + 11 + 2 + D 339 1) 1 = vN t n (plaX t n D (.inl q2)) ∧ K (o + 11 + 2 + D 339 1) 2 = ta ∧ K (o + 11 + 2 + D 339 1) 3 = pa ∧ K (o + 11 + 2 + D 339 1) 4 = la ∧ FR (fun a b => (a = o + 2 ∧ b = D 339 1) ∨ (a = o + 11 + 2 + D 339 1 ∧ 0 ≤ b ∧ b ≤ 4)) Ia K := fun K hK => by
              subst hK
              refine ⟨(((((Ga.1.u (by omega) (by omega)).u (by omega) (by omega)).u (by omega) (by omega)).u (by omega) (by omega)).u (by omega) (by omega)).u (by omega) (by omega), ?_, ?_, ?_, ?_, ?_, ?_, u2_at, ?_⟩
              · rw [u2_o (by omega), u2_o (by omega), u2_o (by omega), u2_o (by omega), u2_o (by omega), u2_o (by omega)]; exact eP
              · rw [u2_o (by omega), u2_o (by omega), u2_o (by omega), u2_o (by omega), u2_o (by omega), u2_at]
              · rw [u2_j (by decide), u2_j (by decide), u2_j (by decide), u2_j (by decide), u2_at]; exact dv9.1
              · rw [u2_j (by decide), u2_j (by decide), u2_j (by decide), u2_at]; exact dv9.2
              · rw [u2_j (by decide), u2_j (by decide), u2_at]
              · rw [u2_j (by decide), u2_at]
              · exact FR.tr (FR.tr (FR.tr (FR.tr (FR.tr (FR_u2 (Or.inl ⟨rfl, rfl⟩)) (FR_u2 (Or.inr ⟨rfl, by decide, by decide⟩))) (FR_u2 (Or.inr ⟨rfl, by decide, by decide⟩))) (FR_u2 (Or.inr ⟨rfl, by decide, by decide⟩))) (FR_u2 (Or.inr ⟨rfl, by decide, by decide⟩))) (FR_u2 (Or.inr ⟨rfl, by decide, by decide⟩))
            obtain ⟨z1, z2, z3, z4, z5, z6, z7, z8, z9⟩ := JJ _ rfl
            refine S_X7_readPerson_149 (d1 := 3) (t2 := o + 11 + 2 + D 339 1) hsa Ga.2.1 hk (by rw [eP]; exact mr) k15 (by rw [eP2]; omega) rr (by omega) (by omega) ka.1 ⟨by decide, by omega⟩ (by omega) ⟨by decide, by omega⟩ ⟨by decide, by omega⟩ ⟨by decide, by omega⟩ ⟨by decide, by omega⟩ (by omega) (by rw [eP]; exact c_readThrow hsa Ga.2.1 hk mr rfl z2 z1) (fun z Ib Rb p => ?_)
            obtain ⟨b1, b2, b3⟩ := p
            generalize u2 (u2 (u2 (u2 (u2 (u2 Ia (o + 2) (D 339 1) v) (o + 11 + 2 + D 339 1) 0 (pl.tmod 9)) (o + 11 + 2 + D 339 1) 1 (pl.tdiv 9)) (o + 11 + 2 + D 339 1) 2 ta) (o + 11 + 2 + D 339 1) 3 pa) (o + 11 + 2 + D 339 1) 4 la = K at z1 z2 z3 z4 z5 z6 z7 z8 z9 b2
            have fP : FR (dP o) I Ib := ((sF_P Fa).tr (z9.mono (fun a b c => Or.inr (Or.inr (by unfold qC; omega))))).tr (b2.mono (fun a b c => by
              rcases c with c | c
              · exact Or.inl c
              · exact Or.inr (Or.inr (by unfold qC; omega))))
            have eZ : prZ t n D (.inl q0) = (if tw t n (.inl q9) = 281319642 then numS t n 0 3 (askC t n 94421673 (numS t n 0 8 (goT t n (.inl q9)))) else .inl q9) := by unfold prZ prB; rw [h9]
            have eW : prW t n D (.inl q0) = (if tw t n (.inl q9) = 281319642 then vN t n (goT t n (.inl q9)) else 0) := by unfold prW; rw [h9]
            have eF : prF t n D (.inl q0) = (if tw t n (.inl q9) = 281319642 then vN t n (askC t n 94421673 (numS t n 0 8 (goT t n (.inl q9)))) else 0) := by unfold prF prB; rw [h9]
            rw [← eZ, ← eW, ← eF] at b1
            cases hZ : prZ t n D (.inl q0) with
            | inr f =>
              rw [hZ] at b1
              obtain ⟨(n1 : z = 0), n2⟩ := b1
              exact S_X7_readPerson_230 (by omega) ⟨⟨n1, n2⟩, fP, Sa.tr b3⟩
            | inl q' =>
              rw [hZ] at b1
              obtain ⟨(n1 : z = 1), n2, n3, n4, n5⟩ := b1
              obtain ⟨q9', q1', q2', q3', q4', q5', q6', q7', q8', A9, A1, A2, A3, A4, A5, A6, A7, A8, As⟩ := per_in hZ
              obtain ⟨qq, eqq, -, -, W2⟩ := new_in hN
              cases eqq
              have a9' := h9
              rw [e9] at a9'
              have lw : 0 ≤ prW t n D (.inl q0) ∧ prW t n D (.inl q0) ≤ 8 ∧ 0 ≤ prF t n D (.inl q0) ∧ prF t n D (.inl q0) ≤ 3 := by
                rw [h9] at A9
                cases A9
                unfold prW prF
                rw [h9]
                by_cases c : tw t n (.inl q9) = 281319642
                · rw [if_pos c, if_pos c]
                  obtain ⟨qa, qb, D1, D2, D3⟩ := As c
                  have M1 := num_lt D1
                  have M3 := num_lt D3
                  rw [D2]
                  show 0 ≤ valN t n _ ∧ valN t n _ ≤ 8 ∧ 0 ≤ valN t n _ ∧ valN t n _ ≤ 3
                  omega
                · rw [if_neg c, if_neg c]; decide
              obtain ⟨q8'', hh8, -, L1, L2⟩ := lawR_in hL
              cases hh8
              have r2 : Rb 110 2 = o := (b3 110 2 (fun c => by unfold sR at c; omega)).trans Ga.2.1
              have hp : ¬ psT D (vN t n (.inl q2)) (vN t n (plaX t n D (.inl q2))) := fun c => y1 (Or.inr (Or.inl c))
              have hwl : ¬ wlT D (vN t n (.inl q2)) (vN t n (plaX t n D (.inl q2))) := fun c => y1 (Or.inl c)
              refine S_X7_readPerson_230 (by omega) ⟨⟨n1, n2, r2, hk, ?_, ?_⟩, fP, Sa.tr b3⟩
              · unfold perD
                rw [h2, h4, h6', h8]
                have kk : ∀ a b, ¬ (a = 67 ∨ (a = o + 11 + 2 + D 339 1 ∧ (b = 5 ∨ b = 6)) ∨ (a = o + 11 ∧ b = 3)) → Ib a b = K a b := fun a b c => b2 a b (fun e => c (by
                  rcases e with e | e
                  · exact Or.inl e.1
                  · exact Or.inr e))
                refine QR_per (I := Ia) ho Ga.2.2.2.1 hD h6 ?_ ?_ ?_ ?_ ?_ ?_ ?_ n3 n4 n5
                · intro a b c
                  rw [kk a b (fun e => c (by omega)), z9 a b (fun e => c (by omega))]
                · rw [kk _ _ (by omega), z3]; exact m1
                · rw [kk _ _ (by omega)]; exact z4
                · rw [kk _ _ (by omega)]; exact z5
                · rw [kk _ _ (by omega), z6]; exact ta1
                · rw [kk _ _ (by omega), z7]; exact pa1
                · rw [kk _ _ (by omega), z8]; exact la1
              · unfold perD
                rw [h2, h4, h6', h8]
                exact GD_per hD h6 W2 y3 y4 hp hwl ⟨by show 0 ≤ valN t n q4; omega, by show valN t n q4 ≤ 9; omega⟩ ⟨by show 0 ≤ valN t n q6; omega, by show valN t n q6 ≤ 2; omega⟩ ⟨L1, L2⟩ ⟨lw.1, lw.2.1⟩ ⟨lw.2.2.1, lw.2.2.2⟩
