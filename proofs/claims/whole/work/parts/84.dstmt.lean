/-! ===== the class reads a statement ===== -/
theorem QR_cod {t : Int → Int} {n : Int} {D : PF} {o w : Int} {s : SA} {C : List Int} {I I' : PF} (ho : o = 72 ∨ o = 91) (h : QR D o I) (hD : GD D) (hw : w = 0 ∨ w = 1) (hC : fCo t n w s = C)
    (f : FR (fun a b => a = 67 ∨ a = 71 ∨ (a = o + 5 + 3 * w ∧ b = 2) ∨ a = o + 5 + 3 * w + 1) I I') (v : I' (o + 5 + 3 * w) 2 = C.length) (vs : ∀ k, 0 ≤ k → k < (C.length : Int) → I' (o + 5 + 3 * w + 1) k = dc (C.getD k.toNat 0)) : QR (codD t n D w s) o I' := by
  obtain ⟨⟨a1, a2, a3, a4, a5⟩, ⟨b1, b2, b3, b4⟩, c1, c2, c3, c4, c5, c6⟩ := h
  obtain ⟨-, ⟨r1, r2, r3, r4, r5, r6⟩⟩ := hD.r
  have h53 := hD.2.2.2.2.2.2.2.2.2.1
  have h345 := hD.2.2.2.2.2.2.2.2.2.2
  have u : ∀ x y, codD t n D w s x y = if x = 345 ∧ y = w then D 306 53 else if x = 346 ∧ y = w then D 306 53 + C.length else if x = 306 ∧ y = 53 then D 306 53 + C.length else if x = 347 ∧ D 306 53 ≤ y ∧ y < D 306 53 + C.length then C.getD (y - D 306 53).toNat 0 else D x y := fun x y => by unfold codD; rw [hC]
  generalize codD t n D w s = D' at u
  have e : ∀ x j, x ≠ 345 → x ≠ 346 → x ≠ 306 → x ≠ 347 → D' x j = D x j := fun x j h1 h2 h3 h4 => by
    rw [u, if_neg (fun c => h1 c.1), if_neg (fun c => h2 c.1), if_neg (fun c => h3 c.1), if_neg (fun c => h4 c.1)]
  have e48 : D' 306 48 = D 306 48 := by
    rw [u, if_neg (fun c => by have := c.1; omega), if_neg (fun c => by have := c.1; omega), if_neg (by decide), if_neg (fun c => by have := c.1; omega)]
  have e345 : ∀ y, D' 345 y = if y = w then D 306 53 else D 345 y := fun y => by
    rw [u]
    by_cases c : y = w
    · rw [if_pos ⟨rfl, c⟩, if_pos c]
    · rw [if_neg (fun d => c d.2), if_neg (fun d => by omega), if_neg (fun d => by omega), if_neg (fun d => by omega), if_neg c]
  have e346 : ∀ y, D' 346 y = if y = w then D 306 53 + C.length else D 346 y := fun y => by
    rw [u]
    by_cases c : y = w
    · rw [if_neg (fun d => by omega), if_pos ⟨rfl, c⟩, if_pos c]
    · rw [if_neg (fun d => by omega), if_neg (fun d => c d.2), if_neg (fun d => by omega), if_neg (fun d => by omega), if_neg c]
  have e347 : ∀ y, y < D 306 53 → D' 347 y = D 347 y := fun y c => by
    rw [u, if_neg (fun d => by omega), if_neg (fun d => by omega), if_neg (fun d => by omega), if_neg (fun d => by omega)]
  have e339 : ∀ j, D' 339 j = D 339 j := fun j => e 339 j (by decide) (by decide) (by decide) (by decide)
  have e340 : ∀ j, D' 340 j = D 340 j := fun j => e 340 j (by decide) (by decide) (by decide) (by decide)
  have e341 : ∀ j, D' 341 j = D 341 j := fun j => e 341 j (by decide) (by decide) (by decide) (by decide)
  have e342 : ∀ j, D' 342 j = D 342 j := fun j => e 342 j (by decide) (by decide) (by decide) (by decide)
  have e343 : ∀ j, D' 343 j = D 343 j := fun j => e 343 j (by decide) (by decide) (by decide) (by decide)
  have e344 : ∀ j, D' 344 j = D 344 j := fun j => e 344 j (by decide) (by decide) (by decide) (by decide)
  have ew : ∀ x y, wlT D' x y ↔ wlT D x y := wlT_c (e339 2) e344
  refine ⟨?_, ?_, fun k k0 k1 => ?_, fun k k0 k1 => ?_, fun j j0 j1 => ?_, fun x y x0 x1 y0 y1 => ?_, fun p p0 p1 => ?_, fun w' hw' => ?_⟩
  · simp only [e341, f o 0 (by omega), f o 1 (by omega), f o 2 (by omega), f o 3 (by omega), f o 4 (by omega)]; exact ⟨a1, a2, a3, a4, a5⟩
  · rw [f o 5 (by omega), f o 6 (by omega), f o 7 (by omega), f (o + 11) 3 (by omega), e48]; simp only [e339]; exact ⟨b1, b2, b3, b4⟩
  · rw [e339] at k1; rw [f (o + 1) k (by omega), e340]; exact c1 k k0 k1
  · rw [e339] at k1; rw [f (o + 2) k (by omega), e340]; exact c2 k k0 k1
  · rw [f (o + 3) j (by omega)]; exact c3 j j0 j1
  · rw [f (o + 3) _ (by omega), ew]; exact c4 x y x0 x1 y0 y1
  · rw [e339] at p1
    have g : ∀ y, I' (o + 11 + 2 + p) y = I (o + 11 + 2 + p) y := fun y => f _ y (by omega)
    simp only [g, e343, e342]; exact c5 p p0 p1
  · by_cases c : w' = w
    · subst c
      refine ⟨fun d => ?_, fun _ => ⟨?_, fun k k0 k1 => ?_⟩⟩
      · rw [e345, if_pos rfl] at d; omega
      · rw [v, e346, e345, if_pos rfl, if_pos rfl]; omega
      · rw [e346, e345, if_pos rfl, if_pos rfl] at k1
        rw [e345, if_pos rfl, u, if_neg (fun d => by omega), if_neg (fun d => by omega), if_neg (fun d => by omega), if_pos ⟨rfl, by omega, by omega⟩, vs k k0 (by omega), show D 306 53 + k - D 306 53 = k by omega]
    · have g : ∀ y, I' (o + 5 + 3 * w') y = I (o + 5 + 3 * w') y := fun y => f _ y (by omega)
      have g' : ∀ y, I' (o + 5 + 3 * w' + 1) y = I (o + 5 + 3 * w' + 1) y := fun y => f _ y (by omega)
      rw [e345, e346, if_neg c, if_neg c, g]
      obtain ⟨d1, d2⟩ := c6 w' hw'
      refine ⟨d1, fun d => ⟨(d2 d).1, fun k k0 k1 => ?_⟩⟩
      have hb : D 345 w' + k < D 306 53 := by
        rcases hw' with rfl | rfl
        · rcases h345.1 with x | x
          · exact absurd x d
          · omega
        · rcases h345.2 with x | x
          · exact absurd x d
          · omega
      rw [g', e347 _ hb]
      exact (d2 d).2 k k0 k1
theorem c_takeOne {X : CX} {I R : PF} {t : Int → Int} {n f : Int} {q : Int × Bool} (hs : Shp R) (h : DSt t n (.inl q) I R) (hf : kd MF f = 2) (hr : inR (I f 2)) :
    CN X 3 mX7_takeOne [(2, 110), (2, f)] I R (fun v I' R' => (I f 2 ≤ 0 ∧ v.2 = 1 ∧ DSt t n (.inl (behT t n q)) I' R' ∨ 0 < I f 2 ∧ v.2 = 0 ∧ DSt t n (.inr (5, skp t n q.1)) I' R') ∧ FR sF I I' ∧ FR sR R R') := by
  refine callee_b (by decide +kernel) (Nat.le_of_ble_eq_true rfl) rfl ?_
  refine S_X7_takeOne_0 (d1 := 0) (by omega) (c_isToldF hf hr) hf (fun z I2 R2 p => ?_)
  obtain ⟨(hz : z = _), rfl, rfl⟩ := p
  have br := bi_r (0 < I2 f 2)
  refine S_X7_takeOne_5 (by omega) (fun g => ?_) (fun g => ?_)
  · have c := bi_0 (hz.symm.trans g)
    refine S_X7_takeOne_12 (S_X7_takeOne_13 (d1 := 2) (by omega) (c_takeKind hs h (by decide) (by decide)) (fun z I3 R3 p => ?_))
    obtain ⟨p1, p2, p3⟩ := p
    rcases p1 with ⟨-, (c2 : z = 1), c3⟩ | ⟨c1, -⟩
    · exact S_X7_takeOne_17 (by omega) ⟨Or.inl ⟨by omega, c2, c3⟩, p2, p3⟩
    · omega
  · have c := bi_1 (by rw [← hz]; exact g)
    refine S_X7_takeOne_8 (S_X7_takeOne_13 (d1 := 2) (by omega) (c_takeKind hs h (by decide) (by decide)) (fun z I3 R3 p => ?_))
    obtain ⟨p1, p2, p3⟩ := p
    rcases p1 with ⟨c1, -⟩ | ⟨-, (c2 : z = 0), c3⟩
    · omega
    · exact S_X7_takeOne_17 (by omega) ⟨Or.inr ⟨c, c2, c3⟩, p2, p3⟩
theorem Stk.dcs {I : PF} {a : Int} {C : List Int} {k : Int} (h : Stk I a (C.map dc) k) : k = C.length ∧ ∀ i, 0 ≤ i → i < (C.reverse.length : Int) → I a i = dc (C.reverse.getD i.toNat 0) := by
  have hl := h.len
  rw [List.length_map] at hl
  refine ⟨hl, fun i i0 i1 => ?_⟩
  rw [List.length_reverse] at i1
  rw [h.get i i0 (by omega), ← List.map_reverse, List.getD_eq_getElem?_getD, List.getElem?_map, List.getD_eq_getElem?_getD]
  have : i.toNat < C.reverse.length := by rw [List.length_reverse]; omega
  rw [List.getElem?_eq_getElem this]
  rfl
theorem sR_dR' {I J : PF} (h : FR sR I J) : FR dR I J := h.mono (fun x y c => Or.inl c)
theorem QRes.sign {t : Int → Int} {n o v : Int} {s : SA} {D I R : PF} (h : QRes t n s D o v I R) : (v = 0 ∧ ∃ f, s = .inr f ∧ DSt t n (.inr f) I R) ∨ (v = 1 ∧ ∃ q, s = .inl q ∧ QG t n (.inl q) D o I R) := by
  cases s with
  | inl q => exact Or.inr ⟨h.1, q, rfl, h.2⟩
  | inr f => exact Or.inl ⟨h.1, f, rfl, h.2⟩
theorem c_readStatement {X : CX} {I R : PF} {t : Int → Int} {n o c : Int} {q : Int × Bool} {D : PF} (hs : Shp R) (h : QG t n (.inl q) D o I R) (hc : c ≠ 60) (h53 : D 306 53 ≤ q.1) :
    CN X 35 mX7_readStatement [(2, 110)] I R (fun v I' R' => QRes t n (stmS t n D c (.inl q)) (stmD t n D (.inl q)) o v.2 I' R' ∧ FR (dP o) I I' ∧ FR dR R R') := by
  refine callee_b (by decide +kernel) (Nat.le_of_ble_eq_true rfl) rfl ?_
  rw [stmS_B hc]
  have h' := h
  obtain ⟨d1, r110, hk, hQ, hD⟩ := h'
  have ho := sq_o hk
  have beh : ∀ w, tw t n (.inl q) = w → w ≠ 0 → behT t n q = (run isL t n (skp t n q.1), true) := fun w c c0 => behT_W (tw_w c c0)
  -- the last sign
  have fin : ∀ (s1 : SA) (D1 : PF) (v : Int) (I1 R1 : PF), stmB t n D (.inl q) = s1 → stmD t n D (.inl q) = D1 → QRes t n s1 D1 o v I1 R1 → FR (dP o) I I1 → FR dR R R1 → PN X 35 mX7_readStatement 208 [(2, 110), (0, v)] [] I1 R1 (fun v I' R' => QRes t n (askS t n 59 (stmB t n D (.inl q))) (stmD t n D (.inl q)) o v.2 I' R' ∧ FR (dP o) I I' ∧ FR dR R R') := fun s1 D1 v I1 R1 e1 e2 k1 k2 k3 => by
    rw [e1, e2]
    have hs1 := hs.fr (dR_mR k3)
    rcases k1.sign with ⟨v0, f, rfl, k4⟩ | ⟨v1, q1, rfl, k4⟩
    · refine S_X7_readStatement_208 (by omega) (fun _ => ?_) (fun g => absurd v0 g)
      have ef : askS t n 59 (.inr f) = .inr f := by unfold askS; rw [if_neg (show ¬ (nxt t n (.inr f) = 59) from fun e => absurd (show (-1 : Int) = 59 from e) (by decide))]; rfl
      rw [ef]
      exact S_X7_readStatement_228 (S_X7_readStatement_229 (by decide) ⟨⟨rfl, k4⟩, k2, k3⟩)
    · refine S_X7_readStatement_208 (by omega) (fun g => by omega) (fun _ => ?_)
      refine S_X7_readStatement_212 (d1 := 2) hs1 (by omega) (c_takeSign hs1 k4.1 (c := 59) (by unfold sgn; omega) (by decide)) (fun z I2 R2 p => ?_)
      obtain ⟨(hz : z = _), p1, p2, p3⟩ := p
      have br := bi_r (nxt t n (.inl q1) = 59)
      refine S_X7_readStatement_221 (by omega) (fun g => ?_) (fun g => ?_)
      · have c := bi_0 (hz.symm.trans g)
        have ef : askS t n 59 (.inl q1) = .inr (1, skp t n q1.1) := by unfold askS; rw [if_neg c]; rfl
        rw [ef] at p1 ⊢
        exact S_X7_readStatement_228 (S_X7_readStatement_229 (by decide) ⟨⟨rfl, p1⟩, k2.tr (sF_P p2), k3.tr (sR_dR' p3)⟩)
      · have c := bi_1 (by rw [← hz]; exact g)
        have ef : askS t n 59 (.inl q1) = .inl (skp t n q1.1 + 1, false) := by unfold askS; rw [if_pos c]; rfl
        rw [ef] at p1 ⊢
        exact S_X7_readStatement_224 (S_X7_readStatement_229 (by decide) ⟨⟨rfl, k4.scan p1 p2 p3⟩, k2.tr (sF_P p2), k3.tr (sR_dR' p3)⟩)
  -- codes of winds or may
  have cod : ∀ (w f : Int) (z : Int) (I1 R1 : PF) (q1 : Int × Bool), (w = 0 ∨ w = 1) → f = o + 5 + 3 * w → goT t n (.inl q) = .inl q1 → D 345 w = -1 → QG t n (.inl q) D o I R → DSt t n (.inl q1) I1 R1 → FR sF I I1 → FR sR R R1 → ∀ (I2 R2 : PF), DRes t n f (fRd t n w q1) z I2 R2 → FR (dF f) I1 I2 → FR dR R1 R2 → QRes t n (codS t n D w (skp t n q.1) (goT t n (.inl q))) (codD t n D w (goT t n (.inl q))) o z I2 R2 := fun w f z I1 R1 q1 hw hf eg h345 hG k1 k2 k3 I2 R2 k4 k5 k6 => by
    have e1 : codS t n D w (skp t n q.1) (goT t n (.inl q)) = fSA t n w (.inl q1) := by unfold codS; rw [cif_f (fun c => c h345), eg]
    have r2 : R2 110 2 = o := by rw [k6 110 2 (fun c => by unfold dR at c; omega), k3 110 2 (fun c => by unfold sR at c; omega)]; exact r110
    rw [e1, eg]
    cases hF : fRd t n w q1 with
    | inr fl =>
      rw [hF] at k4
      have e2 : fSA t n w (.inl q1) = .inr fl := by unfold fSA; simp only; rw [hF]
      rw [e2]; exact k4
    | inl r =>
      rw [hF] at k4
      obtain ⟨m1, m2, m3, m4, m5⟩ := k4
      have e2 : fSA t n w (.inl q1) = .inl r.1 := by unfold fSA; simp only; rw [hF]
      obtain ⟨q0, r', c1, c2, c3, c4, c5, c6⟩ := fSA_in e2
      cases c1
      rw [hF] at c2
      cases c2
      rw [e2]
      obtain ⟨s1, s2⟩ := m3.dcs
      have hq1 : q.1 ≤ q1.1 := by
        obtain ⟨q', a, b⟩ := le_goT (t := t) (n := n) (.inl q) q1 eg
        cases a; exact b
      have hn := m2.1.2.2.1
      have n16 := m2.1.1.2.2.2.1
      have fC : FR (fun a b => a = 67 ∨ a = 71 ∨ (a = o + 5 + 3 * w ∧ b = 2) ∨ a = o + 5 + 3 * w + 1) I I2 := (k2.mono (fun a b c => Or.inl c.1)).tr (k5.mono (fun a b c => by
        unfold dF at c
        rcases c with c | c | c | c
        · exact Or.inl c.1
        · exact Or.inr (Or.inl c.1)
        · exact Or.inr (Or.inr (Or.inl (by rw [← hf]; exact c)))
        · exact Or.inr (Or.inr (Or.inr (by rw [← hf]; exact c)))))
      refine ⟨m1, m2, r2, hk, QR_cod ho hQ hD hw c4 fC (by rw [← hf, List.length_reverse]; exact s1) (by rw [← hf]; exact s2), GD_cod (L := (r.2.length : Int)) (f := fun y => (fCo t n w (.inl q1)).getD (y - D 306 53).toNat 0) hD hw (by omega) (by omega) (by unfold codD; rw [c4, List.length_reverse])⟩
  have tok := d1.1
  refine S_X7_readStatement_0 (d1 := 0) hs (by omega) (c_isWord tok (w := 6) (by decide)) (fun z I1 R1 p => ?_)
  obtain ⟨(hz : z = _), rfl, rfl⟩ := p
  rw [show sW 0 6 = 173171034 by decide] at hz
  have br := bi_r (tw t n (.inl q) = 173171034)
  refine S_X7_readStatement_10 (by omega) (fun g => ?_) (fun g => ?_)
  rotate_left
  · have cw := bi_1 (by rw [← hz]; exact g)
    refine S_X7_readStatement_13 (d1 := 4) (by omega) (c_readLaw hs h (beh _ cw (by decide))) (fun z I2 R2 p => ?_)
    obtain ⟨k1, k2, k3⟩ := p
    exact S_X7_readStatement_17 (fin _ _ z I2 R2 (by unfold stmB; rw [if_pos cw]; rfl) (by unfold stmD; rw [if_pos cw]) k1 k2 (sR_dR' k3))
  have n0 := bi_0 (hz.symm.trans g)
  refine S_X7_readStatement_21 (d1 := 0) hs (by omega) (c_isWord tok (w := 7) (by decide)) (fun z I1 R1 p => ?_)
  obtain ⟨(hz : z = _), rfl, rfl⟩ := p
  rw [show sW 0 7 = 232608281 by decide] at hz
  have br := bi_r (tw t n (.inl q) = 232608281)
  refine S_X7_readStatement_31 (by omega) (fun g => ?_) (fun g => ?_)
  rotate_left
  · have cw := bi_1 (by rw [← hz]; exact g)
    refine S_X7_readStatement_34 (d1 := 4) (by omega) (c_readPerson hs h (beh _ cw (by decide))) (fun z I2 R2 p => ?_)
    obtain ⟨k1, k2, k3⟩ := p
    exact S_X7_readStatement_38 (fin _ _ z I2 R2 (by unfold stmB; rw [if_neg n0, if_pos cw]; rfl) (by unfold stmD; rw [if_neg n0, if_pos cw]) k1 k2 (sR_dR' k3))
  have n1 := bi_0 (hz.symm.trans g)
  refine S_X7_readStatement_42 (d1 := 0) hs (by omega) (c_isWord tok (w := 14) (by decide)) (fun z I1 R1 p => ?_)
  obtain ⟨(hz : z = _), rfl, rfl⟩ := p
  rw [show sW 0 14 = 330801246 by decide] at hz
  have br := bi_r (tw t n (.inl q) = 330801246)
  refine S_X7_readStatement_52 (by omega) (fun g => ?_) (fun g => ?_)
  rotate_left
  · have cw := bi_1 (by rw [← hz]; exact g)
    refine S_X7_readStatement_55 (d1 := 4) (by omega) (c_readWall hs h (beh _ cw (by decide))) (fun z I2 R2 p => ?_)
    obtain ⟨k1, k2, k3⟩ := p
    exact S_X7_readStatement_59 (fin _ _ z I2 R2 (by unfold stmB; rw [if_neg n0, if_neg n1, if_pos cw]; rfl) (by unfold stmD; rw [if_neg n0, if_neg n1, if_pos cw]) k1 k2 (sR_dR' k3))
  have n2 := bi_0 (hz.symm.trans g)
  refine S_X7_readStatement_63 (d1 := 0) hs (by omega) (c_isWord tok (w := 15) (by decide)) (fun z I1 R1 p => ?_)
  obtain ⟨(hz : z = _), rfl, rfl⟩ := p
  rw [show sW 0 15 = 335086821 by decide] at hz
  have br := bi_r (tw t n (.inl q) = 335086821)
  refine S_X7_readStatement_73 (by omega) (fun g => ?_) (fun g => ?_)
  rotate_left
  · have cw := bi_1 (by rw [← hz]; exact g)
    have eB : stmB t n D (.inl q) = codS t n D 0 (skp t n q.1) (goT t n (.inl q)) := by unfold stmB; rw [if_neg n0, if_neg n1, if_neg n2, if_pos cw]; rfl
    have eD : stmD t n D (.inl q) = codD t n D 0 (goT t n (.inl q)) := by unfold stmD; rw [if_neg n0, if_neg n1, if_neg n2, if_pos cw]
    have kf : kd MF (o + 5) = 2 := sq5 hk
    have c6 := hQ.2.2.2.2.2.2.2 0 (by decide)
    have e5 : o + 5 + 3 * 0 = o + 5 := by omega
    rw [e5] at c6
    have h34 := hD.2.2.2.2.2.2.2.2.2.2
    have lr : (D 345 0 = -1 ↔ I1 (o + 5) 2 ≤ 0) ∧ inR (I1 (o + 5) 2) := by
      by_cases c : D 345 0 = -1
      · have := c6.1 c
        exact ⟨⟨fun _ => by omega, fun _ => c⟩, by omega⟩
      · have := (c6.2 c).1
        have h53' := hD.2.2.2.2.2.2.2.2.2.1
        refine ⟨⟨fun d => absurd d c, fun d => ?_⟩, ?_⟩ <;> omega
    refine S_X7_readStatement_76 (d1 := 3) hs r110 hk (by omega) (c_takeOne hs d1 kf lr.2) (fun z I2 R2 p => ?_)
    obtain ⟨k1, k2, k3⟩ := p
    have hs2 := hs.fr (sR_mR k3)
    rcases k1 with ⟨c1, (c2 : z = 1), c3⟩ | ⟨c1, (c2 : z = 0), c3⟩
    rotate_left
    · have e : codS t n D 0 (skp t n q.1) (goT t n (.inl q)) = .inr (5, skp t n q.1) := by unfold codS; rw [cif_t (fun d => by have := lr.1.mp d; omega)]; rfl
      refine S_X7_readStatement_87 (by omega) (fun _ => ?_) (fun g => absurd c2 g)
      refine S_X7_readStatement_112 (S_X7_readStatement_113 (fin _ _ 0 I2 R2 eB eD (by rw [e]; exact ⟨rfl, c3⟩) (sF_P k2) (sR_dR' k3)))
    rw [beh _ cw (by decide)] at c3
    have r2 : R2 110 2 = o := (k3 110 2 (fun c => by unfold sR at c; omega)).trans r110
    have d345 : D 345 0 = -1 := lr.1.mpr c1
    refine S_X7_readStatement_87 (by omega) (fun g => by omega) (fun _ => ?_)
    refine S_X7_readStatement_90 (d1 := 31) hs2 r2 hk (by omega) (c_readSum (tk := 0) (K := 1601) hs2 (by decide) (by have := d1.1.1.2.2.2.1; omega) kf c3) (fun z I3 R3 p => ?_)
    obtain ⟨j1, j2, j3⟩ := p
    have fP : FR (dP o) I1 I3 := (sF_P k2).tr (j2.mono (fun a b c => by
      unfold dF at c
      rcases c with c | c | c | c
      · exact Or.inl c
      · exact Or.inr (Or.inl c)
      · exact Or.inr (Or.inr (by unfold qC; omega))
      · exact Or.inr (Or.inr (by unfold qC; omega))))
    have jF : DRes t n (o + 5) (fRd t n 0 (run isL t n (skp t n q.1), true)) z I3 R3 := by unfold fRd; rw [if_neg (by decide)]; exact j1
    have hR := cod 0 (o + 5) z I2 R2 (run isL t n (skp t n q.1), true) (by decide) (by omega) rfl d345 h c3 k2 k3 I3 R3 jF j2 j3
    have zr : z = 0 ∨ z = 1 := by rcases hR.sign with c | c <;> omega
    refine S_X7_readStatement_105 (by omega) (fun g => ?_) (fun g => ?_)
    · refine S_X7_readStatement_112 (S_X7_readStatement_113 (fin _ _ 0 I3 R3 eB eD (by rw [g] at hR; exact hR) fP ((sR_dR' k3).tr j3)))
    · refine S_X7_readStatement_108 (S_X7_readStatement_113 (fin _ _ 1 I3 R3 eB eD (by rw [show z = 1 by omega] at hR; exact hR) fP ((sR_dR' k3).tr j3)))
  have n3 := bi_0 (hz.symm.trans g)
  refine S_X7_readStatement_117 (d1 := 0) hs (by omega) (c_isWord tok (w := 16) (by decide)) (fun z I1 R1 p => ?_)
  obtain ⟨(hz : z = _), rfl, rfl⟩ := p
  rw [show sW 0 16 = 187559307 by decide] at hz
  have br := bi_r (tw t n (.inl q) = 187559307)
  refine S_X7_readStatement_127 (by omega) (fun g => ?_) (fun g => ?_)
  rotate_left
  · have cw := bi_1 (by rw [← hz]; exact g)
    have eB : stmB t n D (.inl q) = codS t n D 1 (skp t n q.1) (goT t n (.inl q)) := by unfold stmB; rw [if_neg n0, if_neg n1, if_neg n2, if_neg n3, if_pos cw]; rfl
    have eD : stmD t n D (.inl q) = codD t n D 1 (goT t n (.inl q)) := by unfold stmD; rw [if_neg n0, if_neg n1, if_neg n2, if_neg n3, if_pos cw]
    have kf : kd MF (o + 8) = 2 := sq8 hk
    have c6 := hQ.2.2.2.2.2.2.2 1 (by decide)
    have e5 : o + 5 + 3 * 1 = o + 8 := by omega
    rw [e5] at c6
    have h34 := hD.2.2.2.2.2.2.2.2.2.2
    have lr : (D 345 1 = -1 ↔ I1 (o + 8) 2 ≤ 0) ∧ inR (I1 (o + 8) 2) := by
      by_cases c : D 345 1 = -1
      · have := c6.1 c
        exact ⟨⟨fun _ => by omega, fun _ => c⟩, by omega⟩
      · have := (c6.2 c).1
        have h53' := hD.2.2.2.2.2.2.2.2.2.1
        refine ⟨⟨fun d => absurd d c, fun d => ?_⟩, ?_⟩ <;> omega
    refine S_X7_readStatement_130 (d1 := 3) hs r110 hk (by omega) (c_takeOne hs d1 kf lr.2) (fun z I2 R2 p => ?_)
    obtain ⟨k1, k2, k3⟩ := p
    have hs2 := hs.fr (sR_mR k3)
    rcases k1 with ⟨c1, (c2 : z = 1), c3⟩ | ⟨c1, (c2 : z = 0), c3⟩
    rotate_left
    · have e : codS t n D 1 (skp t n q.1) (goT t n (.inl q)) = .inr (5, skp t n q.1) := by unfold codS; rw [cif_t (fun d => by have := lr.1.mp d; omega)]; rfl
      refine S_X7_readStatement_141 (by omega) (fun _ => ?_) (fun g => absurd c2 g)
      refine S_X7_readStatement_166 (S_X7_readStatement_167 (fin _ _ 0 I2 R2 eB eD (by rw [e]; exact ⟨rfl, c3⟩) (sF_P k2) (sR_dR' k3)))
    rw [beh _ cw (by decide)] at c3
    have r2 : R2 110 2 = o := (k3 110 2 (fun c => by unfold sR at c; omega)).trans r110
    have d345 : D 345 1 = -1 := lr.1.mpr c1
    refine S_X7_readStatement_141 (by omega) (fun g => by omega) (fun _ => ?_)
    refine S_X7_readStatement_144 (d1 := 34) hs2 r2 hk (by omega) (c_readTest (tk := 1) (K := 1601) hs2 (by decide) (by have := d1.1.1.2.2.2.1; omega) kf c3) (fun z I3 R3 p => ?_)
    obtain ⟨j1, j2, j3⟩ := p
    have fP : FR (dP o) I1 I3 := (sF_P k2).tr (j2.mono (fun a b c => by
      unfold dF at c
      rcases c with c | c | c | c
      · exact Or.inl c
      · exact Or.inr (Or.inl c)
      · exact Or.inr (Or.inr (by unfold qC; omega))
      · exact Or.inr (Or.inr (by unfold qC; omega))))
    have jF : DRes t n (o + 8) (fRd t n 1 (run isL t n (skp t n q.1), true)) z I3 R3 := by unfold fRd; rw [if_pos rfl]; exact j1
    have hR := cod 1 (o + 8) z I2 R2 (run isL t n (skp t n q.1), true) (by decide) (by omega) rfl d345 h c3 k2 k3 I3 R3 jF j2 j3
    have zr : z = 0 ∨ z = 1 := by rcases hR.sign with c | c <;> omega
    refine S_X7_readStatement_159 (by omega) (fun g => ?_) (fun g => ?_)
    · refine S_X7_readStatement_166 (S_X7_readStatement_167 (fin _ _ 0 I3 R3 eB eD (by rw [g] at hR; exact hR) fP ((sR_dR' k3).tr j3)))
    · refine S_X7_readStatement_162 (S_X7_readStatement_167 (fin _ _ 1 I3 R3 eB eD (by rw [show z = 1 by omega] at hR; exact hR) fP ((sR_dR' k3).tr j3)))
  have n4 := bi_0 (hz.symm.trans g)
  refine S_X7_readStatement_171 (d1 := 0) hs (by omega) (c_isWord tok (w := 17) (by decide)) (fun z I1 R1 p => ?_)
  obtain ⟨(hz : z = _), rfl, rfl⟩ := p
  rw [show sW 0 17 = 111991167 by decide] at hz
  have br := bi_r (tw t n (.inl q) = 111991167)
  refine S_X7_readStatement_181 (by omega) (fun g => ?_) (fun g => ?_)
  rotate_left
  · have cw := bi_1 (by rw [← hz]; exact g)
    refine S_X7_readStatement_184 (d1 := 3) (by omega) (c_readGust hs h cw) (fun z I2 R2 p => ?_)
    obtain ⟨k1, k2, k3⟩ := p
    exact S_X7_readStatement_188 (fin _ _ z I2 R2 (by unfold stmB; rw [if_neg n0, if_neg n1, if_neg n2, if_neg n3, if_neg n4]) (by unfold stmD; rw [if_neg n0, if_neg n1, if_neg n2, if_neg n3, if_neg n4]) k1 k2 (sR_dR' k3))
  have n5 := bi_0 (hz.symm.trans g)
  have eg : gusS t n (.inl q) = .inr (1, skp t n q.1) := by unfold gusS askC; rw [if_neg n5]; rfl
  refine S_X7_readStatement_192 (d1 := 0) hs (by omega) (c_refuse d1 (by decide)) (fun z I2 R2 p => ?_)
  obtain ⟨(p1 : z = 0), p2, p3, rfl⟩ := p
  rw [tok.2.2.2.1] at p2
  exact S_X7_readStatement_207 (fin (.inr (1, skp t n q.1)) _ z I2 R2 (by unfold stmB; rw [if_neg n0, if_neg n1, if_neg n2, if_neg n3, if_neg n4]; exact eg) rfl ⟨p1, p2⟩ (sF_P p3) FR.rf)
