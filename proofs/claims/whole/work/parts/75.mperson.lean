/-! ===== the model reads a person ===== -/
theorem askC_in {t : Int → Int} {n c : Int} {s : SA} {q' : Int × Bool} (hc : c ≠ 0) (h : askC t n c s = .inl q') : ∃ q, s = .inl q ∧ tw t n (.inl q) = c ∧ q' = (run isL t n (skp t n q.1), true) := by
  cases s with
  | inr f =>
    unfold askC at h
    rw [if_neg (fun e => hc (by rw [← e]; rfl))] at h
    cases h
  | inl q =>
    unfold askC at h
    by_cases g : tw t n (.inl q) = c
    · rw [if_pos g] at h; cases h; exact ⟨q, rfl, g, rfl⟩
    · rw [if_neg g] at h; cases h
theorem askC_f {t : Int → Int} {n c : Int} {f : Int × Int} (hc : c ≠ 0) : askC t n c (.inr f) = .inr f := by
  unfold askC
  rw [if_neg (show ¬ tw t n (.inr f) = c from fun e => hc e.symm)]; rfl
theorem numS_in {t : Int → Int} {n lo hi : Int} {s : SA} {q' : Int × Bool} (h : numS t n lo hi s = .inl q') : ∃ q, s = .inl q ∧ numS t n lo hi (.inl q) = .inl q' := by
  cases s with
  | inr f => cases h
  | inl q => exact ⟨q, rfl, h⟩
theorem lawR_in {t : Int → Int} {n : Int} {D : PF} {s : SA} {q' : Int × Bool} (h : lawR t n D s = .inl q') : ∃ q, s = .inl q ∧ namS t n (.inl q) = .inl q' ∧ 0 ≤ lwI D (valW t n q) ∧ lwI D (valW t n q) < D 339 0 := by
  unfold lawR at h
  by_cases c : lwI D (vW t n s) = -1
  · rw [cif_t c] at h; exact (fltA_in h).elim
  · rw [cif_f c] at h
    cases s with
    | inr f => cases h
    | inl q =>
      refine ⟨q, rfl, h, ?_⟩
      have := fI_fst (fun k => D 340 k = valW t n q) (D 339 0)
      have c : lwI D (valW t n q) ≠ -1 := c
      unfold lwI at c ⊢
      rcases this with ⟨e, -⟩ | ⟨e1, e2, -⟩
      · exact absurd e c
      · exact ⟨e1, e2⟩
theorem lawR_f {t : Int → Int} {n : Int} {D : PF} {f : Int × Int} : lawR t n D (.inr f) = .inr f := by
  unfold lawR
  by_cases c : lwI D (vW t n (.inr f)) = -1
  · exact cif_t c
  · exact cif_f c
/-- all that a person's text told, where it was good -/
theorem per_in {t : Int → Int} {n : Int} {D : PF} {s : SA} {q' : Int × Bool} (h : prZ t n D s = .inl q') : ∃ q9 q1 q2 q3 q4 q5 q6 q7 q8, pr9 t n D s = .inl q9 ∧ newS t n D s = .inl q1 ∧ pr2 t n D s = .inl q2 ∧ plaS t n D False (pr2 t n D s) = .inl q3 ∧ pr4 t n D s = .inl q4 ∧ numS t n 0 9 (.inl q4) = .inl q5 ∧ pr6 t n D s = .inl q6 ∧ numS t n 0 2 (.inl q6) = .inl q7 ∧ pr8 t n D s = .inl q8 ∧
    (tw t n (.inl q9) = 281319642 → ∃ qa qb, numS t n 0 8 (goT t n (.inl q9)) = .inl qa ∧ prB t n D s = .inl qb ∧ numS t n 0 3 (.inl qb) = .inl q') := by
  have h9 : ∃ q9, pr9 t n D s = .inl q9 ∧ (tw t n (.inl q9) = 281319642 → ∃ qa qb, numS t n 0 8 (goT t n (.inl q9)) = .inl qa ∧ prB t n D s = .inl qb ∧ numS t n 0 3 (.inl qb) = .inl q') := by
    unfold prZ at h
    by_cases c : tw t n (pr9 t n D s) = 281319642
    · rw [if_pos c] at h
      obtain ⟨qb, hb, hn⟩ := numS_in h
      have hb' := hb
      unfold prB at hb'
      obtain ⟨qa, ha, -, -⟩ := askC_in (by decide) hb'
      obtain ⟨qg, hg, -⟩ := numS_in ha
      cases h9 : pr9 t n D s with
      | inr f => rw [h9] at hg; cases hg
      | inl q9 => rw [h9] at ha; exact ⟨q9, rfl, fun _ => ⟨qa, qb, ha, hb, hn⟩⟩
    · rw [if_neg c] at h
      exact ⟨q', h, fun e => absurd e (by rw [← h]; exact c)⟩
  obtain ⟨q9, h9, hs⟩ := h9
  have h9' := h9
  unfold pr9 at h9'
  obtain ⟨q8, h8, -⟩ := lawR_in h9'
  have h8' := h8
  unfold pr8 at h8'
  obtain ⟨q7, h7, -, -⟩ := askC_in (by decide) h8'
  obtain ⟨q6, h6, h7'⟩ := numS_in h7
  have h6' := h6
  unfold pr6 at h6'
  obtain ⟨q5, h5, -, -⟩ := askC_in (by decide) h6'
  obtain ⟨q4, h4, h5'⟩ := numS_in h5
  have h4' := h4
  unfold pr4 at h4'
  obtain ⟨q3, h3, -, -⟩ := askC_in (by decide) h4'
  have h2 : ∃ q2, pr2 t n D s = .inl q2 := by
    cases c : pr2 t n D s with
    | inl q2 => exact ⟨q2, rfl⟩
    | inr f => rw [c, plaS_f] at h3; cases h3
  obtain ⟨q2, h2⟩ := h2
  have h2' := h2
  unfold pr2 at h2'
  obtain ⟨q1, h1, -, -⟩ := askC_in (by decide) h2'
  exact ⟨q9, q1, q2, q3, q4, q5, q6, q7, q8, h9, h1, h2, h3, h4, h5', h6, h7', h8, hs⟩
theorem AgD.lw {D I : PF} (h : AgD D I) (hm : D 339 0 ≤ 6) (w : Int) : fI (fun k => I 340 (6 * 0 + k) = w) (I 339 0) = lwI D w := by
  have c : I 339 0 = D 339 0 := h 339 0 (by unfold tD; omega)
  unfold lwI
  rw [c]
  refine fI_congr (fun i i0 i1 => ?_)
  rw [show 6 * 0 + i = i by omega, h 340 i (by unfold tD; omega)]
theorem per_end {X : CX} {I0 I R : PF} {d : Nat} {t : Int → Int} {n x2 x4 x5 x8 x9 x10 : Int} {s : SA} {D : PF} {Q : PV → PF → PF → Prop} (hs : Shp R) (h : MG t n (prZ t n D s) D I) (h6 : D 339 1 ≠ 6) (f : FR mT I0 I)
    (hv : ∀ q', prZ t n D s = .inl q' → x2 = vW t n s ∧ x4 = vN t n (pr4 t n D s) ∧ x5 = vN t n (pr6 t n D s) ∧ x8 = lwI D (vW t n (pr8 t n D s)) ∧ x9 = prW t n D s ∧ x10 = prF t n D s ∧ I 306 57 = vN t n (pr2 t n D s) ∧ I 306 58 = vN t n (plaX t n D (pr2 t n D s)))
    (hQ : ∀ v I', MO t n (prZ t n D s) (perD t n D s) I' → FR mT I0 I' → Q v I' R) : PN X d mX11_personTold 150 [(2, 306), (9, 0), (1, x2), (9, 0), (0, x4), (0, x5), (9, 0), (9, 0), (0, x8), (0, x9), (0, x10)] [] I R Q := by
  cases hZ : prZ t n D s with
  | inr fl =>
    rw [hZ] at h hQ
    refine S_X11_personTold_150 h.1.r5 (fun g => absurd g h.1.bad) (fun _ => ?_)
    exact S_X11_personTold_157 (hQ _ _ ⟨h.1, h.2.2.1⟩ f)
  | inl q' =>
    obtain ⟨v1, v2, v3, v4, v5, v6, v7, v8⟩ := hv q' hZ
    rw [hZ] at h hQ
    obtain ⟨q9, q1, q2, q3, q4, q5, q6, q7, q8, a9, a1, a2, a3, a4, a5, a6, a7, a8, as⟩ := per_in hZ
    obtain ⟨-, ⟨r1, r2, r3, r4, -⟩, -⟩ := h.2.2.2
    refine S_X11_personTold_150 h.1.r5 (fun _ => ?_) (fun g => absurd h.1.ok g)
    have e1 : I 339 1 = D 339 1 := h.c0 (by decide)
    have t1 : tD 340 (6 + D 339 1) := by unfold tD; omega
    have t2 : tD 342 (4 * D 339 1) := by unfold tD; omega
    have t3 : tD 342 (4 * D 339 1 + 1) := by unfold tD; omega
    have t4 : tD 342 (4 * D 339 1 + 2) := by unfold tD; omega
    have t5 : tD 343 (4 * D 339 1) := by unfold tD; omega
    have t6 : tD 343 (4 * D 339 1 + 1) := by unfold tD; omega
    have t7 : tD 343 (4 * D 339 1 + 2) := by unfold tD; omega
    have t8 : tD 343 (4 * D 339 1 + 3) := by unfold tD; omega
    have t9 : tD 339 1 := by unfold tD; omega
    obtain ⟨b1, b2, b3, b4⟩ := pla_in a3
    obtain ⟨qq, rfl, -, c2, c3⟩ := new_in a1
    have l5 := num_lt a5
    have l7 := num_lt a7
    have a9' := a9
    unfold pr9 at a9'
    obtain ⟨q8', a8', -, l8, l9⟩ := lawR_in a9'
    have lw : 0 ≤ prW t n D (.inl qq) ∧ prW t n D (.inl qq) ≤ 8 ∧ 0 ≤ prF t n D (.inl qq) ∧ prF t n D (.inl qq) ≤ 3 := by
      unfold prW prF
      rw [a9]
      by_cases c : tw t n (.inl q9) = 281319642
      · rw [if_pos c, if_pos c]
        obtain ⟨qa, qb, d1, d2, d3⟩ := as c
        have m1 := num_lt d1
        have m3 := num_lt d3
        rw [d2]
        show 0 ≤ valN t n _ ∧ valN t n _ ≤ 8 ∧ 0 ≤ valN t n _ ∧ valN t n _ ≤ 3
        omega
      · rw [if_neg c, if_neg c]; decide
    have hp : ¬ psT D (vN t n (pr2 t n D (.inl qq))) (vN t n (plaX t n D (pr2 t n D (.inl qq)))) := fun c => b1 (Or.inr (Or.inl c))
    have hwl : ¬ wlT D (vN t n (pr2 t n D (.inl qq))) (vN t n (plaX t n D (pr2 t n D (.inl qq)))) := fun c => b1 (Or.inl c)
    have ht : 0 ≤ vN t n (pr4 t n D (.inl qq)) ∧ vN t n (pr4 t n D (.inl qq)) ≤ 9 := by rw [a4]; show 0 ≤ valN t n q4 ∧ _; exact ⟨l5.2.2.2.2.1, l5.2.2.2.2.2⟩
    have hpa : 0 ≤ vN t n (pr6 t n D (.inl qq)) ∧ vN t n (pr6 t n D (.inl qq)) ≤ 2 := by rw [a6]; show 0 ≤ valN t n q6 ∧ _; exact ⟨l7.2.2.2.2.1, l7.2.2.2.2.2⟩
    have hl : 0 ≤ lwI D (vW t n (pr8 t n D (.inl qq))) ∧ lwI D (vW t n (pr8 t n D (.inl qq))) < D 339 0 := by rw [a8']; exact ⟨l8, l9⟩
    refine S_X11_personTold_158 hs ?_ ?_ ?_ ?_ ?_ ?_ ?_ ?_ (hQ _ _ ⟨?_, ?_, ?_, GD_per h.2.2.2 h6 c3 b3 b4 hp hwl ht hpa hl ⟨lw.1, lw.2.1⟩ ⟨lw.2.2.1, lw.2.2.2⟩⟩ ?_)
    all_goals simp only [u2_o (show (306 : Int) ≠ 340 by decide), u2_o (show (306 : Int) ≠ 342 by decide), u2_o (show (306 : Int) ≠ 343 by decide), u2_o (show (339 : Int) ≠ 340 by decide), u2_o (show (339 : Int) ≠ 342 by decide), u2_o (show (339 : Int) ≠ 343 by decide), e1, v1, v2, v3, v4, v5, v6, v7, v8]
    any_goals omega
    · exact ((((((((h.1.u t1).u t2).u t3).u t4).u t5).u t6).u t7).u t8).u t9
    · exact (((((((((h.2.1).u).u).u).u).u).u).u).u).u
    · exact ((((((((h.2.2.1.u t1).u t2).u t3).u t4).u t5).u t6).u t7).u t8).u t9
    · exact f.tr (((((((((tDT t1).tr (tDT t2)).tr (tDT t3)).tr (tDT t4)).tr (tDT t5)).tr (tDT t6)).tr (tDT t7)).tr (tDT t8)).tr (tDT t9))
theorem c_personTold {X : CX} {I R : PF} {t : Int → Int} {n b : Int} {s : SA} {D : PF} (hs : Shp R) (h : MG t n s D I) :
    CN X 6 mX11_personTold [(2, 306), (0, b)] I R (fun _ I' R' => MO t n (perS t n D b s) (perD t n D s) I' ∧ FR mT I I' ∧ R' = R) := by
  refine callee_b (by decide +kernel) (Nat.le_of_ble_eq_true rfl) rfl ?_
  have e0 : I 339 1 = D 339 1 := h.c0 (by decide)
  obtain ⟨-, ⟨r0, r5, r1, r2, -⟩, r3, -⟩ := h.2.2.2
  refine S_X11_personTold_0 (d1 := 2) (by omega) (c_isFull hs h.1 (by decide) (by omega) (by decide)) (fun z I1 R1 p => ?_)
  obtain ⟨k1, k2, k3, k4, rfl⟩ := p
  rw [e0] at k1 k2
  simp only at k2 k3
  unfold perS
  by_cases c6 : D 339 1 = 6
  · rw [if_pos c6] at k1 k2
    rw [cif_t c6]
    have zn : z ≠ 0 := fun c => by obtain ⟨q, hq⟩ := k2.mp c; exact fltA_in hq
    refine S_X11_personTold_8 (by omega) (fun g => absurd g zn) (fun _ => ?_)
    refine S_X11_personTold_11 ⟨?_, rdT k4, rfl⟩
    cases s with
    | inl q => exact ⟨k1, h.2.2.1.rd k4⟩
    | inr f => exact ⟨k1, h.2.2.1.rd k4⟩
  rw [if_neg c6] at k1 k2
  rw [cif_f c6]
  have hG1 := h.rd k1 k4
  refine S_X11_personTold_8 (by omega) (fun g => ?_) (fun g => ?_)
  rotate_left
  · cases s with
    | inl q => exact absurd (k2.mpr ⟨q, rfl⟩) g
    | inr f =>
      have eZ : prZ t n D (.inr f) = .inr f := by
        cases hz : prZ t n D (.inr f) with
        | inl q' =>
          obtain ⟨q9, q1, q2, q3, q4, q5, q6, q7, q8, a9, a1, -⟩ := per_in hz
          rw [newS_f] at a1; cases a1
        | inr f' =>
          have a2 : pr2 t n D (.inr f) = .inr f := by unfold pr2; rw [newS_f]; exact askC_f (by decide)
          have a4 : pr4 t n D (.inr f) = .inr f := by unfold pr4; rw [a2, plaS_f]; exact askC_f (by decide)
          have a6 : pr6 t n D (.inr f) = .inr f := by unfold pr6; rw [a4]; exact askC_f (by decide)
          have a8 : pr8 t n D (.inr f) = .inr f := by unfold pr8; rw [a6]; exact askC_f (by decide)
          have a9 : pr9 t n D (.inr f) = .inr f := by unfold pr9; rw [a8]; exact lawR_f
          unfold prZ at hz
          rw [a9, if_neg (show ¬ tw t n (.inr f) = 281319642 from fun e => absurd (show (0 : Int) = 281319642 from e) (by decide))] at hz
          exact hz.symm
      rw [eZ]
      exact S_X11_personTold_11 ⟨⟨k1, hG1.2.2.1⟩, rdT k4, rfl⟩
  refine S_X11_personTold_12 (d1 := 5) (by omega) (c_newName hs hG1) (fun x2 I2 R2 p => ?_)
  obtain ⟨G2, f2, rfl, u2'⟩ := p
  simp only at u2'
  refine S_X11_personTold_16 (d1 := 4) hs (by omega) (w_asks (a := 315) (c := 24977727) (by decide) hs G2.1 G2.2.2.1) (fun z I3 R3 p => ?_)
  obtain ⟨m3, f3, rfl⟩ := p
  have G3 : MG t n (pr2 t n D s) D I3 := G2.rd m3 f3
  refine S_X11_personTold_25 (d1 := 3) (by omega) (c_placeTold (w := 0) hs G3 (Or.inl rfl)) (fun z I4 R4 p => ?_)
  obtain ⟨G4, f4, rfl, u4⟩ := p
  have et : ((0 : Int) ≠ 0) = False := eq_false (by decide)
  rw [et] at G4 u4
  refine S_X11_personTold_30 (d1 := 4) hs (by omega) (w_asks (a := 316) (c := 287754525) (by decide) hs G4.1 G4.2.2.1) (fun z I5 R5 p => ?_)
  obtain ⟨m5, f5, rfl⟩ := p
  have G5 : MG t n (pr4 t n D s) D I5 := G4.rd m5 f5
  refine S_X11_personTold_38 (d1 := 2) (by omega) (c_number hs G5.1 (by decide) (by decide)) (fun x4 I6 R6 p => ?_)
  obtain ⟨n1, n2, m6, f6, rfl, u6⟩ := p
  simp only at n1 n2 u6
  have G6 := G5.rd m6 f6
  refine S_X11_personTold_45 (d1 := 4) hs (by omega) (w_asks (a := 317) (c := 230176647) (by decide) hs G6.1 G6.2.2.1) (fun z I7 R7 p => ?_)
  obtain ⟨m7, f7, rfl⟩ := p
  have G7 : MG t n (pr6 t n D s) D I7 := G6.rd m7 f7
  refine S_X11_personTold_55 (d1 := 2) (by omega) (c_number hs G7.1 (by decide) (by decide)) (fun x5 I8 R8 p => ?_)
  obtain ⟨n3, n4, m8, f8, rfl, u8⟩ := p
  simp only at n3 n4 u8
  have G8 := G7.rd m8 f8
  refine S_X11_personTold_61 (d1 := 4) hs (by omega) (w_asks (a := 318) (c := 65479509) (by decide) hs G8.1 G8.2.2.1) (fun z I9 R9 p => ?_)
  obtain ⟨m9, f9, rfl⟩ := p
  have G9 : MG t n (pr8 t n D s) D I9 := G8.rd m9 f9
  refine S_X11_personTold_71 (d1 := 4) (by omega) (c_name hs G9.1 G9.2.2.1) (fun w Ia Ra p => ?_)
  obtain ⟨ma, fa, rfl, ua1, ua2⟩ := p
  simp only at ua1 ua2
  have Ga := G9.rd ma fa
  have wl : inL w := by
    cases hn : namS t n (pr8 t n D s) with
    | inr f => rw [ua2 (fun q' e => by rw [hn] at e; cases e)]; unfold inL; omega
    | inl q' =>
      cases h8 : pr8 t n D s with
      | inr f => rw [h8] at hn; cases hn
      | inl q =>
        rw [h8] at hn
        rw [(ua1 q q' h8 (by rw [h8]; exact hn)).1]
        obtain ⟨w1, w2, -⟩ := nam_ok hn
        exact (valW_l w2 w1).1.l
  have ea0 : Ia 339 0 = D 339 0 := Ga.c0 (by decide)
  have ean : ∀ k, 0 ≤ k → k < Ia 339 0 → inL (Ia 340 (6 * 0 + k)) := fun k k0 k1 => by
    rw [show 6 * 0 + k = k by omega, Ga.nm (by omega)]; exact (r3 k k0 (by omega)).l
  refine S_X11_personTold_75 (d1 := 0) (by omega) (c_nameOf (x1 := 0) hs (by decide) (by omega) ean wl) (fun x8 Ib Rb p => ?_)
  obtain ⟨(hx8 : x8 = _), rfl, rfl⟩ := p
  rw [Ga.2.1.lw r5 w] at hx8
  have x8r : -1 ≤ x8 ∧ x8 < 6 := by
    rw [hx8]; unfold lwI
    rcases fI_fst (fun k => D 340 k = w) (D 339 0) with ⟨e, -⟩ | ⟨e1, e2, -⟩ <;> omega
  have fmid : FR mPl I1 Ib := ((((((((rdPl f2).tr (rdPl f3)).tr f4).tr (rdPl f5)).tr (rdPl f6)).tr (rdPl f7)).tr (rdPl f8)).tr (rdPl f9)).tr (rdPl fa)
  have f57 : ∀ (J : PF), FR mRd Ib J → J 306 57 = I4 306 57 ∧ J 306 58 = I4 306 58 := fun J fj => by
    have g : FR mRd I4 J := (((((((f5.tr f6).tr f7).tr f8).tr f9).tr fa)).tr fj)
    exact ⟨g 306 57 (fun c => by unfold mRd at c; omega), g 306 58 (fun c => by unfold mRd at c; omega)⟩
  -- behind the law's name
  have rest : ∀ J : PF, MG t n (pr9 t n D s) D J → FR mRd Ib J → PN X 6 mX11_personTold 108 [(2, 306), (9, 0), (1, x2), (9, 0), (0, x4), (0, x5), (9, 0), (9, 0), (0, x8)] [] J Rb (fun _ I' R' => MO t n (prZ t n D s) (perD t n D s) I' ∧ FR mT I I' ∧ R' = Rb) := fun J GJ fJ => by
    have vals : ∀ q', prZ t n D s = .inl q' → x2 = vW t n s ∧ x4 = vN t n (pr4 t n D s) ∧ x5 = vN t n (pr6 t n D s) ∧ x8 = lwI D (vW t n (pr8 t n D s)) := fun q' hZ => by
      obtain ⟨q9, q1, q2, q3, q4, q5, q6, q7, q8, a9, a1, a2, a3, a4, a5, a6, a7, a8, as⟩ := per_in hZ
      refine ⟨u2' q1 a1, ?_, ?_, ?_⟩
      · rw [(u6 q4 q5 a4 (by rw [a4]; exact a5)).1, a4]; rfl
      · rw [(u8 q6 q7 a6 (by rw [a6]; exact a7)).1, a6]; rfl
      · have a9' := a9
        unfold pr9 at a9'
        obtain ⟨q8', b8, b9, -⟩ := lawR_in a9'
        rw [hx8, (ua1 q8' q9 b8 (by rw [b8]; exact b9)).1, b8]; rfl
    have pvals : ∀ q' (K : PF), prZ t n D s = .inl q' → FR mRd Ib K → K 306 57 = vN t n (pr2 t n D s) ∧ K 306 58 = vN t n (plaX t n D (pr2 t n D s)) := fun q' K hZ fK => by
      obtain ⟨q9, q1, q2, q3, q4, q5, q6, q7, q8, a9, a1, a2, a3, -⟩ := per_in hZ
      obtain ⟨b1, b2⟩ := u4 q3 a3
      obtain ⟨c1, c2⟩ := f57 K fK
      exact ⟨c1.trans b1, c2.trans b2⟩
    have fT : ∀ K, FR mRd Ib K → FR mT I K := fun K fK => (rdT k4).tr ((plT fmid).tr (rdT fK))
    refine S_X11_personTold_108 (d1 := 3) hs (by omega) (w_takes (a := 319) (c := 281319642) (by decide) hs GJ.1 GJ.2.2.1) (fun z Ic Rc p => ?_)
    obtain ⟨(hz : z = _), mc, fc, rfl, -⟩ := p
    have br := bi_r (tw t n (pr9 t n D s) = 281319642)
    have Gc := GJ.rd mc fc
    refine S_X11_personTold_122 (by omega) (fun g => ?_) (fun g => ?_)
    · have c := bi_0 (hz.symm.trans g)
      have eZ : prZ t n D s = pr9 t n D s := by unfold prZ; rw [if_neg c]
      have eT : takW t n 281319642 (pr9 t n D s) = pr9 t n D s := by unfold takW; rw [if_neg c]
      rw [eT, ← eZ] at Gc
      refine per_end hs Gc c6 (fT Ic (fJ.tr fc)) (fun q' hZ => ?_) (fun v I' h1 h2 => ⟨h1, h2, rfl⟩)
      obtain ⟨b1, b2, b3, b4⟩ := vals q' hZ
      obtain ⟨b5, b6⟩ := pvals q' Ic hZ (fJ.tr fc)
      refine ⟨b1, b2, b3, b4, ?_, ?_, b5, b6⟩
      · unfold prW; rw [if_neg c]
      · unfold prF; rw [if_neg c]
    have c := bi_1 (by rw [← hz]; exact g)
    have eT : takW t n 281319642 (pr9 t n D s) = goT t n (pr9 t n D s) := by unfold takW; rw [if_pos c]
    rw [eT] at Gc
    refine S_X11_personTold_125 (d1 := 2) (by omega) (c_number hs Gc.1 (by decide) (by decide)) (fun x9 Id Rd p => ?_)
    obtain ⟨n5, n6, md, fd, rfl, ud⟩ := p
    simp only at n5 n6 ud
    have Gd := Gc.rd md fd
    refine S_X11_personTold_132 (d1 := 4) hs (by omega) (w_asks (a := 320) (c := 94421673) (by decide) hs Gd.1 Gd.2.2.1) (fun z Ie Re p => ?_)
    obtain ⟨me, fe, rfl⟩ := p
    have Ge : MG t n (prB t n D s) D Ie := Gd.rd me fe
    refine S_X11_personTold_142 (d1 := 2) (by omega) (c_number hs Ge.1 (by decide) (by decide)) (fun x10 If Rf p => ?_)
    obtain ⟨n7, n8, mf, ff, rfl, uf⟩ := p
    simp only at n7 n8 uf
    have eZ : prZ t n D s = numS t n 0 3 (prB t n D s) := by unfold prZ; rw [if_pos c]
    have Gf := Ge.rd mf ff
    rw [← eZ] at Gf
    have ffr : FR mRd Ib If := (((fJ.tr fc).tr fd).tr fe).tr ff
    refine S_X11_personTold_148 (per_end hs Gf c6 (fT If ffr) (fun q' hZ => ?_) (fun v I' h1 h2 => ⟨h1, h2, rfl⟩))
    obtain ⟨b1, b2, b3, b4⟩ := vals q' hZ
    obtain ⟨b5, b6⟩ := pvals q' If hZ ffr
    obtain ⟨q9, q1, q2, q3, q4, q5, q6, q7, q8, a9, a1, a2, a3, a4, a5, a6, a7, a8, as⟩ := per_in hZ
    have c' := c
    rw [a9] at c'
    obtain ⟨qa, qb, d1, d2, d3⟩ := as c'
    refine ⟨b1, b2, b3, b4, ?_, ?_, b5, b6⟩
    · unfold prW; rw [if_pos c, a9]
      exact (ud (run isL t n (skp t n q9.1), true) qa (by rw [a9]; rfl) (by rw [a9]; exact d1)).1
    · unfold prF; rw [if_pos c, d2]
      exact (uf qb q' d2 (by rw [d2]; exact d3)).1
  have e9 : pr9 t n D s = lawR t n D (pr8 t n D s) := rfl
  cases hn : namS t n (pr8 t n D s) with
  | inr f =>
    rw [hn] at Ga
    have eR : lawR t n D (pr8 t n D s) = .inr f := by
      unfold lawR; rw [hn]
      by_cases c : lwI D (vW t n (pr8 t n D s)) = -1
      · exact cif_t c
      · exact cif_f c
    refine S_X11_personTold_84 Ga.1.r5 (fun _ => ?_) (fun g => absurd g Ga.1.bad)
    exact rest Ib (by rw [e9, eR]; exact Ga) FR.rf
  | inl q9 =>
    rw [hn] at Ga
    refine S_X11_personTold_84 Ga.1.r5 (fun g => absurd Ga.1.ok g) (fun _ => ?_)
    cases h8 : pr8 t n D s with
    | inr f => rw [h8] at hn; cases hn
    | inl q8 =>
      have hn' := hn
      rw [h8] at hn'
      obtain ⟨w1, w2⟩ := ua1 q8 q9 h8 (by rw [h8]; exact hn')
      have hx : x8 = lwI D (vW t n (pr8 t n D s)) := by rw [hx8, w1, h8]; rfl
      refine S_X11_personTold_93 (by omega) (fun g => ?_) (fun g => ?_)
      · refine rest Ib ?_ FR.rf
        have eR : lawR t n D (pr8 t n D s) = .inl q9 := by
          unfold lawR; rw [cif_f (by rw [← hx]; exact g), hn]
        rw [e9, eR]; exact Ga
      · refine S_X11_personTold_99 (d1 := 1) (by omega) (c_failA Ga.1 (by decide)) (fun z Ic Rc p => ?_)
        obtain ⟨mc, fc, rfl⟩ := p
        rw [w2] at mc
        refine rest Ic ?_ fc
        have eR : lawR t n D (pr8 t n D s) = .inr (3, skp t n q8.1) := by
          unfold lawR; rw [cif_t (by rw [← hx]; exact g), hn, h8]; rfl
        rw [e9, eR]; exact Ga.rd mc fc
