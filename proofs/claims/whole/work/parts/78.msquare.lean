/-! ===== the model reads the square's first statement ===== -/
theorem numS_hi {t : Int → Int} {n lo hi hi' : Int} {s : SA} (h : ∀ q, s = .inl q → hi = hi') : numS t n lo hi s = numS t n lo hi' s := by
  cases s with
  | inl q => rw [h q rfl]
  | inr f => rfl
theorem sq_in {t : Int → Int} {n : Int} {q' : Int × Bool} (h : sgZ t n = .inl q') : ∃ q2 q3 q4 q5 q6 q7 q8 q9 qa, sg2 t n = .inl q2 ∧ numS t n 2 9 (.inl q2) = .inl q3 ∧ sg4 t n = .inl q4 ∧ numS t n 2 9 (.inl q4) = .inl q5 ∧ sg6 t n = .inl q6 ∧ numS t n 0 (valN t n q2 - 1) (.inl q6) = .inl q7 ∧ sg7 t n = .inl q7 ∧ numS t n 0 (valN t n q4 - 1) (.inl q7) = .inl q8 ∧ sg9 t n = .inl q9 ∧ numS t n 1 9 (.inl q9) = .inl qa := by
  unfold sgZ at h
  obtain ⟨qa, ha, -⟩ := askS_in (by decide) h
  obtain ⟨q9, h9, ha'⟩ := numS_in ha
  have h9' := h9
  unfold sg9 at h9'
  obtain ⟨q8, h8, -⟩ := askC_in (by decide) h9'
  obtain ⟨q7, h7, h8'⟩ := numS_in h8
  have h7' := h7
  unfold sg7 at h7'
  obtain ⟨q6, h6, h7''⟩ := numS_in h7'
  have h6' := h6
  unfold sg6 at h6'
  obtain ⟨q5, h5, -⟩ := askC_in (by decide) h6'
  obtain ⟨q4, h4, h5'⟩ := numS_in h5
  have h4' := h4
  unfold sg4 at h4'
  obtain ⟨q3, h3, -⟩ := askC_in (by decide) h4'
  obtain ⟨q2, h2, h3'⟩ := numS_in h3
  rw [h2] at h7''
  rw [h4] at h8'
  exact ⟨q2, q3, q4, q5, q6, q7, q8, q9, qa, h2, h3', h4, h5', h6, h7'', h7, h8', h9, ha'⟩
theorem GD_sq {t : Int → Int} {n : Int} {q' : Int × Bool} {D : PF} (h : sgZ t n = .inl q') : GD (sgD t n (D0 D)) := by
  obtain ⟨q2, q3, q4, q5, q6, q7, q8, q9, qa, a2, b2, a4, b4, a6, b6, a7, b7, a9, b9⟩ := sq_in h
  have l2 := num_lt b2
  have l4 := num_lt b4
  have l6 := num_lt b6
  have l7 := num_lt b7
  have l9 := num_lt b9
  have e0 : sgD t n (D0 D) 341 0 = valN t n q2 := by unfold sgD; rw [a2]; simp [u2, vN]
  have e1 : sgD t n (D0 D) 341 1 = valN t n q4 := by unfold sgD; rw [a4]; simp [u2, vN]
  have e2 : sgD t n (D0 D) 341 2 = valN t n q6 := by unfold sgD; rw [a6]; simp [u2, vN]
  have e3 : sgD t n (D0 D) 341 3 = valN t n q7 := by unfold sgD; rw [a7]; simp [u2, vN]
  have e4 : sgD t n (D0 D) 341 4 = valN t n q9 := by unfold sgD; rw [a9]; simp [u2, vN]
  have c0 : sgD t n (D0 D) 339 0 = 0 := by simp [sgD, D0, u2]
  have c1 : sgD t n (D0 D) 339 1 = 0 := by simp [sgD, D0, u2]
  have c2 : sgD t n (D0 D) 339 2 = 0 := by simp [sgD, D0, u2]
  have c3 : sgD t n (D0 D) 306 48 = 0 := by simp [sgD, D0, u2]
  have c4 : sgD t n (D0 D) 306 53 = 0 := by simp [sgD, D0, u2]
  have c5 : sgD t n (D0 D) 345 0 = -1 := by simp [sgD, D0, u2]
  have c6 : sgD t n (D0 D) 345 1 = -1 := by simp [sgD, D0, u2]
  refine ⟨?_, ?_, ?_, ?_, ?_, ?_, ?_, ?_, ?_, ?_, ?_, ?_⟩
  · rw [e0, e1, e2, e3, e4]; omega
  · rw [c0, c1, c2]; omega
  · intro k k0 k1; omega
  · intro k k0 k1; omega
  · intro k k0 k1; omega
  · intro k k0 k1; omega
  · intro k j k0 k1 k2; omega
  · intro k k0 k1; omega
  · rw [c3]; omega
  · rw [c4]; omega
  · exact Or.inl c5
  · exact Or.inl c6
theorem c_squareTold {X : CX} {I R : PF} {t : Int → Int} {n : Int} {D : PF} (hs : Shp R) (h : MSt t n (.inl (0, false)) I) (hD : AgD (D0 D) I) (hC : CW I) :
    CN X 5 mX11_squareTold [(2, 306)] I R (fun _ I' R' => MO t n (sgZ t n) (sgD t n (D0 D)) I' ∧ FR mT I I' ∧ R' = R) := by
  refine callee_b (by decide +kernel) (Nat.le_of_ble_eq_true rfl) rfl ?_
  have t0 : tD 341 0 := by unfold tD; omega
  have t1 : tD 341 1 := by unfold tD; omega
  have t2 : tD 341 2 := by unfold tD; omega
  have t3 : tD 341 3 := by unfold tD; omega
  have t4 : tD 341 4 := by unfold tD; omega
  have md : ∀ {J K : PF} {j : Int}, FR mRd J K → K 341 j = J 341 j := fun f => f 341 _ (fun c => by unfold mRd at c; omega)
  refine S_X11_squareTold_0 (d1 := 4) hs (by omega) (w_asks (a := 309) (c := 282078293) (by decide) hs h hC) (fun z I1 R1 p => ?_)
  obtain ⟨m1, f1, rfl⟩ := p
  have m1 : MSt t n (sg2 t n) I1 := m1
  refine S_X11_squareTold_8 (d1 := 2) hs (by omega) (c_number hs m1 (by decide) (by decide)) (fun v0 I2 R2 p => ?_)
  obtain ⟨p0, r0, m2, f2, rfl, w0⟩ := p
  simp only at p0 r0 w0
  have hC2 := ((hC.rd f1).rd f2).u (v := v0) t0
  refine S_X11_squareTold_20 (d1 := 4) hs (by decide) (by omega) (w_asks (a := 310) (c := 41983839) (by decide) hs (m2.u t0) hC2) (fun z I3 R3 p => ?_)
  obtain ⟨m3, f3, rfl⟩ := p
  have m3 : MSt t n (sg4 t n) I3 := m3
  refine S_X11_squareTold_29 (d1 := 2) hs (by omega) (c_number hs m3 (by decide) (by decide)) (fun v1 I4 R4 p => ?_)
  obtain ⟨p1, r1, m4, f4, rfl, w1⟩ := p
  simp only at p1 r1 w1
  have hC4 := ((hC2.rd f3).rd f4).u (v := v1) t1
  refine S_X11_squareTold_41 (d1 := 4) hs (by decide) (by omega) (w_asks (a := 311) (c := 295406595) (by decide) hs (m4.u t1) hC4) (fun z I5 R5 p => ?_)
  obtain ⟨m5, f5, rfl⟩ := p
  have m5 : MSt t n (sg6 t n) I5 := m5
  have e50 : I5 341 0 = v0 := by rw [md f5, u2_j (by decide), md f4, md f3, u2_at]
  refine S_X11_squareTold_50 (d1 := 2) hs (by omega) (c_number hs m5 (by decide) (by rw [e50]; omega)) (fun v2 I6 R6 p => ?_)
  obtain ⟨p2, r2, m6, f6, rfl, w2⟩ := p
  rw [e50] at m6 w2
  simp only at p2 r2 w2
  -- behind a good first number the model's bound is the document's
  have h6 : numS t n 0 (v0 - 1) (sg6 t n) = sg7 t n := by
    unfold sg7
    refine numS_hi (fun q6 e6 => ?_)
    unfold sg6 at e6
    obtain ⟨q5, e5, -⟩ := askC_in (by decide) e6
    obtain ⟨q4, e4, -⟩ := numS_in e5
    have e4' := e4
    unfold sg4 at e4'
    obtain ⟨q3, e3, -⟩ := askC_in (by decide) e4'
    obtain ⟨q2, e2, e3'⟩ := numS_in e3
    rw [(w0 q2 q3 e2 e3).1, e2]; rfl
  rw [h6] at m6
  have hC6 := ((hC4.rd f5).rd f6).u (v := v2) t2
  have e61 : (u2 I6 341 2 v2) 341 1 = v1 := by rw [u2_j (by decide), md f6, md f5, u2_at]
  refine S_X11_squareTold_68 (d1 := 2) hs (by decide) (by omega) (c_number hs (m6.u t2) (by decide) (by rw [e61]; omega)) (fun v3 I7 R7 p => ?_)
  obtain ⟨p3, r3, m7, f7, rfl, w3⟩ := p
  rw [e61] at m7 w3
  simp only at p3 r3 w3
  have h7 : numS t n 0 (v1 - 1) (sg7 t n) = numS t n 0 (vN t n (sg4 t n) - 1) (sg7 t n) := by
    refine numS_hi (fun q7 e7 => ?_)
    unfold sg7 at e7
    obtain ⟨q6, e6, -⟩ := numS_in e7
    unfold sg6 at e6
    obtain ⟨q5, e5, -⟩ := askC_in (by decide) e6
    obtain ⟨q4, e4, e5'⟩ := numS_in e5
    rw [(w1 q4 q5 e4 e5).1, e4]; rfl
  rw [h7] at m7
  have hC7 := (hC6.rd f7).u (v := v3) t3
  refine S_X11_squareTold_87 (d1 := 4) hs (by decide) (by omega) (w_asks (a := 312) (c := 119717838) (by decide) hs (m7.u t3) hC7) (fun z I8 R8 p => ?_)
  obtain ⟨m8, f8, rfl⟩ := p
  have m8 : MSt t n (sg9 t n) I8 := m8
  refine S_X11_squareTold_96 (d1 := 2) hs (by omega) (c_number hs m8 (by decide) (by decide)) (fun v4 I9 R9 p => ?_)
  obtain ⟨p4, r4, m9, f9, rfl, w4⟩ := p
  simp only at p4 r4 w4
  have hC9 := ((hC7.rd f8).rd f9).u (v := v4) t4
  refine S_X11_squareTold_108 (d1 := 3) (by decide) (by omega) (c_asksSign hs (m9.u t4) (c := 59) (by decide)) (fun z Ia Ra p => ?_)
  obtain ⟨ma, fa, rfl⟩ := p
  have ma : MSt t n (sgZ t n) Ia := ma
  have fT : FR mT I Ia := ((((((((((((((rdT f1).tr (rdT f2)).tr (tDT t0)).tr (rdT f3)).tr (rdT f4)).tr (tDT t1)).tr (rdT f5)).tr (rdT f6)).tr (tDT t2)).tr (rdT f7)).tr (tDT t3)).tr (rdT f8)).tr (rdT f9)).tr (tDT t4)).tr (rdT fa)
  refine S_X11_squareTold_115 ⟨?_, fT, rfl⟩
  cases hZ : sgZ t n with
  | inr f => rw [hZ] at ma; exact ⟨ma, hC9.rd fa⟩
  | inl q' =>
    rw [hZ] at ma
    obtain ⟨q2, q3, q4, q5, q6, q7, q8, q9, qa, a2, b2, a4, b4, a6, b6, a7, b7, a9, b9⟩ := sq_in hZ
    have x0 : v0 = valN t n q2 := (w0 q2 q3 a2 (by rw [a2]; exact b2)).1
    have x1 : v1 = valN t n q4 := (w1 q4 q5 a4 (by rw [a4]; exact b4)).1
    have x2 : v2 = valN t n q6 := (w2 q6 q7 a6 (by rw [a6, x0]; exact b6)).1
    have x3 : v3 = valN t n q7 := (w3 q7 q8 a7 (by rw [a7, x1]; exact b7)).1
    have x4 : v4 = valN t n q9 := (w4 q9 qa a9 (by rw [a9]; exact b9)).1
    refine ⟨ma, ?_, hC9.rd fa, GD_sq hZ⟩
    have y0 : Ia 341 0 = v0 := by rw [md fa, u2_j (by decide), md f9, md f8, u2_j (by decide), md f7, u2_j (by decide), md f6]; exact e50
    have y1 : Ia 341 1 = v1 := by rw [md fa, u2_j (by decide), md f9, md f8, u2_j (by decide), md f7]; exact e61
    have y2 : Ia 341 2 = v2 := by rw [md fa, u2_j (by decide), md f9, md f8, u2_j (by decide), md f7, u2_at]
    have y3 : Ia 341 3 = v3 := by rw [md fa, u2_j (by decide), md f9, md f8, u2_at]
    have y4 : Ia 341 4 = v4 := by rw [md fa, u2_at]
    have fo : FR (fun x y => mRd x y ∨ (x = 341 ∧ 0 ≤ y ∧ y < 5)) I Ia := by
      have g : ∀ {J K : PF}, FR mRd J K → FR (fun x y => mRd x y ∨ (x = 341 ∧ 0 ≤ y ∧ y < 5)) J K := fun f => f.mono (fun x y c => Or.inl c)
      have w : ∀ {J : PF} {j v : Int}, 0 ≤ j ∧ j < 5 → FR (fun x y => mRd x y ∨ (x = 341 ∧ 0 ≤ y ∧ y < 5)) J (u2 J 341 j v) := fun h => FR_u2 (Or.inr ⟨rfl, h.1, h.2⟩)
      exact ((((((((((((((g f1).tr (g f2)).tr (w (by decide))).tr (g f3)).tr (g f4)).tr (w (by decide))).tr (g f5)).tr (g f6)).tr (w (by decide))).tr (g f7)).tr (w (by decide))).tr (g f8)).tr (g f9)).tr (w (by decide))).tr (g fa)
    intro x y hxy
    by_cases c : x = 341
    · subst c
      have hy : y = 0 ∨ y = 1 ∨ y = 2 ∨ y = 3 ∨ y = 4 := by unfold tD at hxy; omega
      unfold sgD
      rw [a2, a4, a6, a7, a9]
      rcases hy with rfl | rfl | rfl | rfl | rfl
      · rw [y0, x0]; simp [u2, vN]
      · rw [y1, x1]; simp [u2, vN]
      · rw [y2, x2]; simp [u2, vN]
      · rw [y3, x3]; simp [u2, vN]
      · rw [y4, x4]; simp [u2, vN]
    · rw [fo x y (fun d => d.elim (tD_rd hxy) (fun d => c d.1)), hD x y hxy]
      unfold sgD
      rw [u2_o c, u2_o c, u2_o c, u2_o c, u2_o c]
