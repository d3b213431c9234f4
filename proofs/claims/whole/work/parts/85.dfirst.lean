/-! ===== the class reads the square's first statement ===== -/
def CL (o : Int) (I : PF) : Prop := I o 5 = 0 ∧ I o 6 = 0 ∧ I o 7 = 0 ∧ I (o + 11) 3 = 0 ∧ (∀ j, 0 ≤ j → j < 81 → I (o + 3) j = 0) ∧ I (o + 5) 2 = 0 ∧ I (o + 8) 2 = 0
def sW4 (o a b : Int) : Prop := a = 67 ∨ (a = o ∧ 0 ≤ b ∧ b ≤ 4)
theorem sF_4 {o : Int} {I J : PF} (h : FR sF I J) : FR (sW4 o) I J := h.mono (fun a b c => Or.inl c.1)
theorem CL.fr {o : Int} {I J : PF} (ho : o = 72 ∨ o = 91) (h : CL o I) (f : FR (sW4 o) I J) : CL o J := by
  obtain ⟨a1, a2, a3, a4, a5, a6, a7⟩ := h
  refine ⟨?_, ?_, ?_, ?_, fun j j0 j1 => ?_, ?_, ?_⟩
  · rw [f o 5 (fun c => by unfold sW4 at c; omega)]; exact a1
  · rw [f o 6 (fun c => by unfold sW4 at c; omega)]; exact a2
  · rw [f o 7 (fun c => by unfold sW4 at c; omega)]; exact a3
  · rw [f _ _ (fun c => by unfold sW4 at c; omega)]; exact a4
  · rw [f _ _ (fun c => by unfold sW4 at c; omega)]; exact a5 j j0 j1
  · rw [f _ _ (fun c => by unfold sW4 at c; omega)]; exact a6
  · rw [f _ _ (fun c => by unfold sW4 at c; omega)]; exact a7
theorem QR_sq {t : Int → Int} {n o : Int} {D I : PF} (h : CL o I) (v : I o 0 = vN t n (sg2 t n) ∧ I o 1 = vN t n (sg4 t n) ∧ I o 2 = vN t n (sg6 t n) ∧ I o 3 = vN t n (sg7 t n) ∧ I o 4 = vN t n (sg9 t n)) : QR (sgD t n (D0 D)) o I := by
  obtain ⟨a1, a2, a3, a4, a5, a6, a7⟩ := h
  obtain ⟨v0, v1, v2, v3, v4⟩ := v
  have e0 : sgD t n (D0 D) 341 0 = vN t n (sg2 t n) := by unfold sgD; simp [u2]
  have e1 : sgD t n (D0 D) 341 1 = vN t n (sg4 t n) := by unfold sgD; simp [u2]
  have e2 : sgD t n (D0 D) 341 2 = vN t n (sg6 t n) := by unfold sgD; simp [u2]
  have e3 : sgD t n (D0 D) 341 3 = vN t n (sg7 t n) := by unfold sgD; simp [u2]
  have e4 : sgD t n (D0 D) 341 4 = vN t n (sg9 t n) := by unfold sgD; simp [u2]
  have c0 : sgD t n (D0 D) 339 0 = 0 := by simp [sgD, D0, u2]
  have c1 : sgD t n (D0 D) 339 1 = 0 := by simp [sgD, D0, u2]
  have c2 : sgD t n (D0 D) 339 2 = 0 := by simp [sgD, D0, u2]
  have c3 : sgD t n (D0 D) 306 48 = 0 := by simp [sgD, D0, u2]
  have c5 : sgD t n (D0 D) 345 0 = -1 := by simp [sgD, D0, u2]
  have c6 : sgD t n (D0 D) 345 1 = -1 := by simp [sgD, D0, u2]
  refine ⟨⟨v0.trans e0.symm, v1.trans e1.symm, v2.trans e2.symm, v3.trans e3.symm, v4.trans e4.symm⟩, ⟨a1.trans c0.symm, a2.trans c2.symm, a3.trans c3.symm, a4.trans c1.symm⟩, fun k k0 k1 => by omega, fun k k0 k1 => by omega, fun j j0 j1 => Or.inl (a5 j j0 j1), fun x y x0 x1 y0 y1 => ?_, fun p p0 p1 => by omega, fun w hw => ?_⟩
  · rw [a5 _ (by omega) (by omega)]
    exact ⟨fun c => absurd rfl c, fun ⟨k, k0, k1, _⟩ => by omega⟩
  · rcases hw with rfl | rfl
    · rw [show o + 5 + 3 * 0 = o + 5 by omega]; exact ⟨fun _ => a6, fun c => absurd c5 c⟩
    · rw [show o + 5 + 3 * 1 = o + 8 by omega]; exact ⟨fun _ => a7, fun c => absurd c6 c⟩
theorem askS_f {t : Int → Int} {n c : Int} {f : Int × Int} (hc : c ≠ -1) : askS t n c (.inr f) = .inr f := by
  unfold askS
  rw [if_neg (show ¬ nxt t n (.inr f) = c from fun e => hc e.symm)]; rfl
theorem rs_2 {X : CX} {I R I5 R5 : PF} {t : Int → Int} {n o v0 v1 : Int} {q6 : Int × Bool} {D : PF} (hs5 : Shp R5) (r110 : R 110 2 = o) (hk : kd MF o = 6) (hC : CL o I) (r5 : R5 110 2 = o) (k1 : DSt t n (.inl q6) I5 R5) (w0 : I5 o 0 = v0) (w1 : I5 o 1 = v1) (y0 : vN t n (sg2 t n) = v0) (y1 : vN t n (sg4 t n) = v1) (h6 : sg6 t n = .inl q6) (n2 : 2 ≤ v0) (n3 : v0 ≤ 9) (m2 : 2 ≤ v1) (m3 : v1 ≤ 9) (F5 : FR (sW4 o) I I5) (T5 : FR sR R R5) :
    PN X 3 mX7_readSquare 101 [(2, 110)] [] I5 R5 (fun (v : PV) (I' R' : PF) => QRes t n (sgZ t n) (sgD t n (D0 D)) o v.2 I' R' ∧ FR (sW4 o) I I' ∧ FR sR R R') := by
  have ho := sq_o hk
  have x9 : ∀ f, sg9 t n = .inr f → sgZ t n = .inr f := fun f e => by unfold sgZ; rw [e]; exact askS_f (by decide)
  have x7 : ∀ f, sg7 t n = .inr f → sgZ t n = .inr f := fun f e => x9 f (by unfold sg9; rw [e]; exact askC_f (by decide))
  have x6 : ∀ f, sg6 t n = .inr f → sgZ t n = .inr f := fun f e => x7 f (by unfold sg7; rw [e]; rfl)
  have x4 : ∀ f, sg4 t n = .inr f → sgZ t n = .inr f := fun f e => x6 f (by unfold sg6; rw [e]; exact askC_f (by decide))
  have x2 : ∀ f, sg2 t n = .inr f → sgZ t n = .inr f := fun f e => x4 f (by unfold sg4; rw [e]; exact askC_f (by decide))
  have out : ∀ {f : Int × Int} {I' R' : PF}, sgZ t n = .inr f → DSt t n (.inr f) I' R' → FR (sW4 o) I I' → FR sR R R' → (fun (v : PV) (I' R' : PF) => QRes t n (sgZ t n) (sgD t n (D0 D)) o v.2 I' R' ∧ FR (sW4 o) I I' ∧ FR sR R R') (0, 0) I' R' := fun {f I' R'} k1 k2 k3 k4 => by
    refine ⟨?_, k3, k4⟩
    rw [k1]; exact ⟨rfl, k2⟩
  have e2 : sg2 t n = askC t n 282078293 (.inl (0, false)) := rfl
  have e4 : sg4 t n = askC t n 41983839 (numS t n 2 9 (sg2 t n)) := rfl
  have e6 : sg6 t n = askC t n 295406595 (numS t n 2 9 (sg4 t n)) := rfl
  have e7 : sg7 t n = numS t n 0 (vN t n (sg2 t n) - 1) (sg6 t n) := rfl
  have e9 : sg9 t n = askC t n 119717838 (numS t n 0 (vN t n (sg4 t n) - 1) (sg7 t n)) := rfl
  have eZ : sgZ t n = askS t n 59 (numS t n 1 9 (sg9 t n)) := rfl
  have wk4 : ∀ {J : PF} {j v : Int}, 0 ≤ j ∧ j ≤ 4 → FR (sW4 o) J (u2 J o j v) := fun h => FR_u2 (Or.inr ⟨rfl, h.1, h.2⟩)
  have sk : ∀ {J K : PF} {j : Int}, FR sF J K → K o j = J o j := fun f => f o _ (fun c => by unfold sF at c; omega)
  have o67 : o ≠ 67 := by omega
  have o65 : o ≠ 65 := by omega
  have rk : ∀ {A B : PF}, FR sR A B → B 110 2 = A 110 2 := fun h => h 110 2 (fun c => by unfold sR at c; omega)
  -- tower's column
  refine S_X7_readSquare_101 (d1 := 2) hs5 r5 hk (by omega) (c_takeNumber hs5 k1 (by decide) (by rw [w0]; omega)) (fun v2 I6 R6 p => ?_)
  obtain ⟨i1, i2, i3⟩ := p
  rw [w0] at i1
  have hs6 := hs5.fr (sR_mR i3)
  have T6 := T5.tr i3
  have r6 : R6 110 2 = o := (rk T6).trans r110
  have F6 := (F5.tr (sF_4 i2)).tr (wk4 (v := v2) (show (0 : Int) ≤ 2 ∧ (2 : Int) ≤ 4 by decide))
  have w2 : (u2 I6 o 2 v2) o 2 = v2 := u2_at
  have w0 : (u2 I6 o 2 v2) o 0 = v0 := by rw [u2_j (by decide), sk i2]; exact w0
  have w1 : (u2 I6 o 2 v2) o 1 = v1 := by rw [u2_j (by decide), sk i2]; exact w1
  unfold NRes at i1
  cases hC7 : numS t n 0 (v0 - 1) (.inl q6) with
  | inr f =>
    rw [hC7] at i1
    obtain ⟨(n1 : v2 = _), n2⟩ := i1
    refine S_X7_readSquare_122 hk r6 hk (by rw [w2, n1]; decide) (fun g => absurd (w2.trans n1) g) (fun _ => ?_)
    exact S_X7_readSquare_136 (out (x7 f (by rw [e7, h6, y0]; exact hC7)) (n2.u o67 o65) F6 T6)
  | inl q7 =>
  rw [hC7] at i1
  obtain ⟨(l1 : v2 = _), l2, l3, -, d7⟩ := i1
  simp only at l2 l3
  have h7 : sg7 t n = .inl q7 := by rw [e7, h6, y0]; exact hC7
  have d7 := d7.u (x := o) (y := 2) (v := v2) o67 o65
  refine S_X7_readSquare_122 hk r6 hk (by rw [w2]; omega) (fun _ => ?_) (fun g => by omega)
  generalize u2 I6 o 2 v2 = J6 at F6 w0 w1 w2 d7
  -- tower's row
  refine S_X7_readSquare_138 (d1 := 2) hs6 r6 hk (by omega) (c_takeNumber hs6 d7 (by decide) (by rw [w1]; omega)) (fun v3 I7 R7 p => ?_)
  obtain ⟨i1, i2, i3⟩ := p
  rw [w1] at i1
  have hs7 := hs6.fr (sR_mR i3)
  have T7 := T6.tr i3
  have r7 : R7 110 2 = o := (rk T7).trans r110
  have F7 := (F6.tr (sF_4 i2)).tr (wk4 (v := v3) (show (0 : Int) ≤ 3 ∧ (3 : Int) ≤ 4 by decide))
  have w3 : (u2 I7 o 3 v3) o 3 = v3 := u2_at
  have w0 : (u2 I7 o 3 v3) o 0 = v0 := by rw [u2_j (by decide), sk i2]; exact w0
  have w1 : (u2 I7 o 3 v3) o 1 = v1 := by rw [u2_j (by decide), sk i2]; exact w1
  have w2 : (u2 I7 o 3 v3) o 2 = v2 := by rw [u2_j (by decide), sk i2]; exact w2
  unfold NRes at i1
  cases hE : numS t n 0 (v1 - 1) (.inl q7) with
  | inr f =>
    rw [hE] at i1
    obtain ⟨(n1 : v3 = _), n2⟩ := i1
    refine S_X7_readSquare_159 hk r7 hk (by rw [w3, n1]; decide) (fun _ => ?_) (fun g => absurd (w3.trans n1) g)
    exact S_X7_readSquare_186 (out (x9 f (by rw [e9, h7, y1, hE]; exact askC_f (by decide))) (n2.u o67 o65) F7 T7)
  | inl q8 =>
  rw [hE] at i1
  obtain ⟨(o1 : v3 = _), o2, o3, -, d8⟩ := i1
  simp only at o2 o3
  have d8 := d8.u (x := o) (y := 3) (v := v3) o67 o65
  refine S_X7_readSquare_159 hk r7 hk (by rw [w3]; omega) (fun g => by omega) (fun _ => ?_)
  generalize u2 I7 o 3 v3 = J7 at F7 w0 w1 w2 w3 d8
  -- high
  refine S_X7_readSquare_173 (d1 := 2) hs7 (by omega) (c_takeWord hs7 d8 (w := 5) (by decide)) (fun z I8 R8 p => ?_)
  obtain ⟨(hz : z = _), k1, k2, k3⟩ := p
  rw [show sW 0 5 = 119717838 by decide] at hz k1
  have hs8 := hs7.fr (sR_mR k3)
  have F8 := F7.tr (sF_4 k2)
  have T8 := T7.tr k3
  have w0 : I8 o 0 = v0 := (sk k2).trans w0
  have w1 : I8 o 1 = v1 := (sk k2).trans w1
  have w2 : I8 o 2 = v2 := (sk k2).trans w2
  have w3 : I8 o 3 = v3 := (sk k2).trans w3
  have br := bi_r (tw t n (.inl q8) = 119717838)
  refine S_X7_readSquare_183 (by omega) (fun g => ?_) (fun g => ?_)
  rotate_left
  · have c := bi_0 (hz.symm.trans g)
    have ek : askC t n 119717838 (.inl q8) = .inr (1, skp t n q8.1) := by unfold askC; rw [if_neg c]; rfl
    rw [ek] at k1
    exact S_X7_readSquare_186 (out (x9 _ (by rw [e9, h7, y1, hE]; exact ek)) k1 F8 T8)
  have c := bi_1 (by rw [← hz]; exact g)
  have h9 : sg9 t n = .inl (run isL t n (skp t n q8.1), true) := by rw [e9, h7, y1, hE]; unfold askC; rw [if_pos c]; rfl
  rw [show askC t n 119717838 (.inl q8) = .inl (run isL t n (skp t n q8.1), true) by unfold askC; rw [if_pos c]; rfl] at k1
  generalize ((run isL t n (skp t n q8.1), true) : Int × Bool) = q9 at k1 h9
  have r8 : R8 110 2 = o := (rk T8).trans r110
  refine S_X7_readSquare_188 (d1 := 2) hs8 r8 (by omega) (c_takeNumber hs8 k1 (by decide) (by decide)) (fun v4 I9 R9 p => ?_)
  obtain ⟨i1, i2, i3⟩ := p
  have hs9 := hs8.fr (sR_mR i3)
  have T9 := T8.tr i3
  have r9 : R9 110 2 = o := (rk T9).trans r110
  have F9 := (F8.tr (sF_4 i2)).tr (wk4 (v := v4) (show (0 : Int) ≤ 4 ∧ (4 : Int) ≤ 4 by decide))
  have w4 : (u2 I9 o 4 v4) o 4 = v4 := u2_at
  have w0 : (u2 I9 o 4 v4) o 0 = v0 := by rw [u2_j (by decide), sk i2]; exact w0
  have w1 : (u2 I9 o 4 v4) o 1 = v1 := by rw [u2_j (by decide), sk i2]; exact w1
  have w2 : (u2 I9 o 4 v4) o 2 = v2 := by rw [u2_j (by decide), sk i2]; exact w2
  have w3 : (u2 I9 o 4 v4) o 3 = v3 := by rw [u2_j (by decide), sk i2]; exact w3
  unfold NRes at i1
  cases hH : numS t n 1 9 (.inl q9) with
  | inr f =>
    rw [hH] at i1
    obtain ⟨(n1 : v4 = _), n2⟩ := i1
    refine S_X7_readSquare_202 hk r9 hk (by rw [w4, n1]; decide) (fun _ => ?_) (fun g => absurd (w4.trans n1) g)
    exact S_X7_readSquare_232 (S_X7_readSquare_233 (by decide) (out (f := f) (by rw [eZ, h9, hH]; exact askS_f (by decide)) (n2.u o67 o65) F9 T9))
  | inl qa =>
  rw [hH] at i1
  obtain ⟨(s1 : v4 = _), s2, s3, -, da⟩ := i1
  simp only at s2 s3
  have da := da.u (x := o) (y := 4) (v := v4) o67 o65
  refine S_X7_readSquare_202 hk r9 hk (by rw [w4]; omega) (fun g => by omega) (fun _ => ?_)
  generalize u2 I9 o 4 v4 = J9 at F9 w0 w1 w2 w3 w4 da
  refine S_X7_readSquare_216 (d1 := 2) hs9 (by omega) (c_takeSign hs9 da (c := 59) (by unfold sgn; omega) (by decide)) (fun z Ia Ra p => ?_)
  obtain ⟨(hz : z = _), k1, k2, k3⟩ := p
  have Fa := F9.tr (sF_4 k2)
  have Ta := T9.tr k3
  have br := bi_r (nxt t n (.inl qa) = 59)
  have eA : sgZ t n = askS t n 59 (.inl qa) := by rw [eZ, h9, hH]
  refine S_X7_readSquare_225 (by omega) (fun g => ?_) (fun g => ?_)
  · have c := bi_0 (hz.symm.trans g)
    have ek : askS t n 59 (.inl qa) = .inr (1, skp t n qa.1) := by unfold askS; rw [if_neg c]; rfl
    rw [ek] at k1
    exact S_X7_readSquare_232 (S_X7_readSquare_233 (by decide) (out (f := (1, skp t n qa.1)) (eA.trans ek) k1 Fa Ta))
  have c := bi_1 (by rw [← hz]; exact g)
  have ek : askS t n 59 (.inl qa) = .inl (skp t n qa.1 + 1, false) := by unfold askS; rw [if_pos c]; rfl
  have eA' := eA.trans ek
  rw [ek] at k1
  refine S_X7_readSquare_228 (S_X7_readSquare_233 (by decide) ⟨?_, Fa, Ta⟩)
  rw [eA']
  refine ⟨rfl, k1, (rk Ta).trans r110, hk, QR_sq (hC.fr ho Fa) ⟨?_, ?_, ?_, ?_, ?_⟩, GD_sq eA'⟩
  · rw [sk k2, w0, y0]
  · rw [sk k2, w1, y1]
  · rw [sk k2, w2, h6]; exact l1
  · rw [sk k2, w3, h7]; exact o1
  · rw [sk k2, w4, h9]; exact s1

theorem c_readSquare {X : CX} {I R : PF} {t : Int → Int} {n o : Int} {D : PF} (hs : Shp R) (d0 : DSt t n (.inl (0, false)) I R) (r110 : R 110 2 = o) (hk : kd MF o = 6) (hC : CL o I) :
    CN X 3 mX7_readSquare [(2, 110)] I R (fun v I' R' => QRes t n (sgZ t n) (sgD t n (D0 D)) o v.2 I' R' ∧ FR (sW4 o) I I' ∧ FR sR R R') := by
  refine callee_b (by decide +kernel) (Nat.le_of_ble_eq_true rfl) rfl ?_
  have ho := sq_o hk
  have x9 : ∀ f, sg9 t n = .inr f → sgZ t n = .inr f := fun f e => by unfold sgZ; rw [e]; exact askS_f (by decide)
  have x7 : ∀ f, sg7 t n = .inr f → sgZ t n = .inr f := fun f e => x9 f (by unfold sg9; rw [e]; exact askC_f (by decide))
  have x6 : ∀ f, sg6 t n = .inr f → sgZ t n = .inr f := fun f e => x7 f (by unfold sg7; rw [e]; rfl)
  have x4 : ∀ f, sg4 t n = .inr f → sgZ t n = .inr f := fun f e => x6 f (by unfold sg6; rw [e]; exact askC_f (by decide))
  have x2 : ∀ f, sg2 t n = .inr f → sgZ t n = .inr f := fun f e => x4 f (by unfold sg4; rw [e]; exact askC_f (by decide))
  have out : ∀ {f : Int × Int} {I' R' : PF}, sgZ t n = .inr f → DSt t n (.inr f) I' R' → FR (sW4 o) I I' → FR sR R R' → (fun (v : PV) (I' R' : PF) => QRes t n (sgZ t n) (sgD t n (D0 D)) o v.2 I' R' ∧ FR (sW4 o) I I' ∧ FR sR R R') (0, 0) I' R' := fun {f I' R'} k1 k2 k3 k4 => by
    refine ⟨?_, k3, k4⟩
    rw [k1]; exact ⟨rfl, k2⟩
  have e2 : sg2 t n = askC t n 282078293 (.inl (0, false)) := rfl
  have e4 : sg4 t n = askC t n 41983839 (numS t n 2 9 (sg2 t n)) := rfl
  have e6 : sg6 t n = askC t n 295406595 (numS t n 2 9 (sg4 t n)) := rfl
  have e7 : sg7 t n = numS t n 0 (vN t n (sg2 t n) - 1) (sg6 t n) := rfl
  have e9 : sg9 t n = askC t n 119717838 (numS t n 0 (vN t n (sg4 t n) - 1) (sg7 t n)) := rfl
  have eZ : sgZ t n = askS t n 59 (numS t n 1 9 (sg9 t n)) := rfl
  have wk4 : ∀ {J : PF} {j v : Int}, 0 ≤ j ∧ j ≤ 4 → FR (sW4 o) J (u2 J o j v) := fun h => FR_u2 (Or.inr ⟨rfl, h.1, h.2⟩)
  have sk : ∀ {J K : PF} {j : Int}, FR sF J K → K o j = J o j := fun f => f o _ (fun c => by unfold sF at c; omega)
  have o67 : o ≠ 67 := by omega
  have o65 : o ≠ 65 := by omega
  have rk : ∀ {A B : PF}, FR sR A B → B 110 2 = A 110 2 := fun h => h 110 2 (fun c => by unfold sR at c; omega)
  refine S_X7_readSquare_0 (d1 := 2) hs (by omega) (c_takeWord hs d0 (w := 2) (by decide)) (fun z I1 R1 p => ?_)
  obtain ⟨(hz : z = _), j1, j2, j3⟩ := p
  rw [show sW 0 2 = 282078293 by decide] at hz j1
  have hs1 := hs.fr (sR_mR j3)
  have F1 := sF_4 (o := o) j2
  have T1 := j3
  have br := bi_r (tw t n (.inl (0, false)) = 282078293)
  refine S_X7_readSquare_10 (by omega) (fun g => ?_) (fun g => ?_)
  rotate_left
  · have c := bi_0 (hz.symm.trans g)
    have ek : askC t n 282078293 (.inl (0, false)) = .inr (1, skp t n 0) := by unfold askC; rw [if_neg c]; rfl
    rw [ek] at j1
    exact S_X7_readSquare_13 (out (x2 _ ek) j1 F1 T1)
  have c := bi_1 (by rw [← hz]; exact g)
  have h2 : sg2 t n = .inl (run isL t n (skp t n 0), true) := by rw [e2]; unfold askC; rw [if_pos c]; rfl
  rw [show askC t n 282078293 (.inl (0, false)) = sg2 t n from rfl, h2] at j1
  generalize ((run isL t n (skp t n 0), true) : Int × Bool) = q2 at j1 h2
  have r1 : R1 110 2 = o := (rk T1).trans r110
  -- columns
  refine S_X7_readSquare_15 (d1 := 2) hs1 r1 (by omega) (c_takeNumber hs1 j1 (by decide) (by decide)) (fun v0 I2 R2 p => ?_)
  obtain ⟨i1, i2, i3⟩ := p
  have hs2 := hs1.fr (sR_mR i3)
  have T2 := T1.tr i3
  have r2 : R2 110 2 = o := (rk T2).trans r110
  have F2 := (F1.tr (sF_4 i2)).tr (wk4 (v := v0) (show (0 : Int) ≤ 0 ∧ (0 : Int) ≤ 4 by decide))
  have w0 : (u2 I2 o 0 v0) o 0 = v0 := u2_at
  unfold NRes at i1
  cases hA : numS t n 2 9 (.inl q2) with
  | inr f =>
    rw [hA] at i1
    obtain ⟨(n1 : v0 = _), n2⟩ := i1
    refine S_X7_readSquare_29 hk r2 hk (by rw [w0, n1]; decide) (fun _ => ?_) (fun g => absurd (w0.trans n1) g)
    exact S_X7_readSquare_56 (out (x4 f (by rw [e4, h2, hA]; exact askC_f (by decide))) (n2.u o67 o65) F2 T2)
  | inl q3 =>
  rw [hA] at i1
  obtain ⟨(n1 : v0 = _), n2, n3, -, d3⟩ := i1
  simp only at n2 n3
  have d3 := d3.u (x := o) (y := 0) (v := v0) o67 o65
  refine S_X7_readSquare_29 hk r2 hk (by rw [w0]; omega) (fun g => by omega) (fun _ => ?_)
  generalize u2 I2 o 0 v0 = J2 at F2 w0 d3
  -- by
  refine S_X7_readSquare_43 (d1 := 2) hs2 (by omega) (c_takeWord hs2 d3 (w := 3) (by decide)) (fun z I3 R3 p => ?_)
  obtain ⟨(hz : z = _), k1, k2, k3⟩ := p
  rw [show sW 0 3 = 41983839 by decide] at hz k1
  have hs3 := hs2.fr (sR_mR k3)
  have F3 := F2.tr (sF_4 k2)
  have T3 := T2.tr k3
  have w0 : I3 o 0 = v0 := (sk k2).trans w0
  have br := bi_r (tw t n (.inl q3) = 41983839)
  refine S_X7_readSquare_53 (by omega) (fun g => ?_) (fun g => ?_)
  rotate_left
  · have c := bi_0 (hz.symm.trans g)
    have ek : askC t n 41983839 (.inl q3) = .inr (1, skp t n q3.1) := by unfold askC; rw [if_neg c]; rfl
    rw [ek] at k1
    exact S_X7_readSquare_56 (out (x4 _ (by rw [e4, h2, hA]; exact ek)) k1 F3 T3)
  have c := bi_1 (by rw [← hz]; exact g)
  have h4 : sg4 t n = .inl (run isL t n (skp t n q3.1), true) := by rw [e4, h2, hA]; unfold askC; rw [if_pos c]; rfl
  rw [show askC t n 41983839 (.inl q3) = .inl (run isL t n (skp t n q3.1), true) by unfold askC; rw [if_pos c]; rfl] at k1
  generalize ((run isL t n (skp t n q3.1), true) : Int × Bool) = q4 at k1 h4
  have r3 : R3 110 2 = o := (rk T3).trans r110
  -- rows
  refine S_X7_readSquare_58 (d1 := 2) hs3 r3 (by omega) (c_takeNumber hs3 k1 (by decide) (by decide)) (fun v1 I4 R4 p => ?_)
  obtain ⟨i1, i2, i3⟩ := p
  have hs4 := hs3.fr (sR_mR i3)
  have T4 := T3.tr i3
  have r4 : R4 110 2 = o := (rk T4).trans r110
  have F4 := (F3.tr (sF_4 i2)).tr (wk4 (v := v1) (show (0 : Int) ≤ 1 ∧ (1 : Int) ≤ 4 by decide))
  have w1 : (u2 I4 o 1 v1) o 1 = v1 := u2_at
  have w0 : (u2 I4 o 1 v1) o 0 = v0 := by rw [u2_j (by decide), sk i2]; exact w0
  unfold NRes at i1
  cases hB : numS t n 2 9 (.inl q4) with
  | inr f =>
    rw [hB] at i1
    obtain ⟨(n1 : v1 = _), n2⟩ := i1
    refine S_X7_readSquare_72 hk r4 hk (by rw [w1, n1]; decide) (fun _ => ?_) (fun g => absurd (w1.trans n1) g)
    exact S_X7_readSquare_99 (out (x6 f (by rw [e6, h4, hB]; exact askC_f (by decide))) (n2.u o67 o65) F4 T4)
  | inl q5 =>
  rw [hB] at i1
  obtain ⟨(m1 : v1 = _), m2, m3, -, d5⟩ := i1
  simp only at m2 m3
  have d5 := d5.u (x := o) (y := 1) (v := v1) o67 o65
  refine S_X7_readSquare_72 hk r4 hk (by rw [w1]; omega) (fun g => by omega) (fun _ => ?_)
  generalize u2 I4 o 1 v1 = J4 at F4 w0 w1 d5
  -- tower
  refine S_X7_readSquare_86 (d1 := 2) hs4 (by omega) (c_takeWord hs4 d5 (w := 4) (by decide)) (fun z I5 R5 p => ?_)
  obtain ⟨(hz : z = _), k1, k2, k3⟩ := p
  rw [show sW 0 4 = 295406595 by decide] at hz k1
  have hs5 := hs4.fr (sR_mR k3)
  have F5 := F4.tr (sF_4 k2)
  have T5 := T4.tr k3
  have w0 : I5 o 0 = v0 := (sk k2).trans w0
  have w1 : I5 o 1 = v1 := (sk k2).trans w1
  have br := bi_r (tw t n (.inl q5) = 295406595)
  refine S_X7_readSquare_96 (by omega) (fun g => ?_) (fun g => ?_)
  rotate_left
  · have c := bi_0 (hz.symm.trans g)
    have ek : askC t n 295406595 (.inl q5) = .inr (1, skp t n q5.1) := by unfold askC; rw [if_neg c]; rfl
    rw [ek] at k1
    exact S_X7_readSquare_99 (out (x6 _ (by rw [e6, h4, hB]; exact ek)) k1 F5 T5)
  have c := bi_1 (by rw [← hz]; exact g)
  have h6 : sg6 t n = .inl (run isL t n (skp t n q5.1), true) := by rw [e6, h4, hB]; unfold askC; rw [if_pos c]; rfl
  rw [show askC t n 295406595 (.inl q5) = .inl (run isL t n (skp t n q5.1), true) by unfold askC; rw [if_pos c]; rfl] at k1
  generalize ((run isL t n (skp t n q5.1), true) : Int × Bool) = q6 at k1 h6
  have r5 : R5 110 2 = o := (rk T5).trans r110
  have y0 : vN t n (sg2 t n) = v0 := by rw [h2]; exact n1.symm
  have y1 : vN t n (sg4 t n) = v1 := by rw [h4]; exact m1.symm
  exact rs_2 hs5 r110 hk hC r5 k1 w0 w1 y0 y1 h6 n2 n3 m2 m3 F5 T5
