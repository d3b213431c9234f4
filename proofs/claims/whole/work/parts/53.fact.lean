/-! ===== the model reads a fact ===== -/
noncomputable def factY (t : Int → Int) (n tk : Int) (K : Nat) (y : Y3) : Y3 ⊕ (Int × Int) :=
  if tw t n (.inl y.1) = 20962395 then .inl ((run isL t n (skp t n y.1.1), true), 13 :: y.2.1, y.2.2)
  else match sumsY t n tk K y with
    | .inr f => .inr f
    | .inl y1 =>
      if nxt t n (.inl y1.1) = 60 ∨ nxt t n (.inl y1.1) = 62 ∨ nxt t n (.inl y1.1) = 61 then
        (match sumsY t n tk K ((skp t n y1.1.1 + 1, false), y1.2.1, y1.2.2) with
        | .inr f => .inr f
        | .inl y2 => .inl (y2.1, (if nxt t n (.inl y1.1) = 60 then 7 else if nxt t n (.inl y1.1) = 62 then 8 else 9) :: y2.2.1, y2.2.2))
      else .inr (1, skp t n y1.1.1)
theorem sumsL_le {t : Int → Int} {n tk : Int} {K : Nat} : ∀ (k : Nat) (y y' : Y4), sumsL t n tk K k y = .inl y' → y.1.1 ≤ y'.1.1
  | 0, y, y', h => by cases h; exact Int.le_refl _
  | k + 1, y, y', h => by
    unfold sumsL at h
    cases hp : partY t n tk K y with
    | inr f => rw [hp] at h; cases h
    | inl y1 =>
      rw [hp] at h
      simp only at h
      have h1 := part_lt hp
      cases hg : goesY t n K y1 with
      | inr f => rw [hg] at h; cases h
      | inl r =>
        rw [hg] at h
        simp only at h
        obtain ⟨b, y2⟩ := r
        have h2 := goes_le hg
        cases b with
        | true => simp only [if_true] at h; have := sumsL_le k y2 y' h; omega
        | false => simp only [Bool.false_eq_true, if_false] at h; cases h; omega
theorem sums_le {t : Int → Int} {n tk : Int} {K : Nat} {y y' : Y3} (h : sumsY t n tk K y = .inl y') : y.1.1 ≤ y'.1.1 := by
  unfold sumsY at h
  cases hs : sumsL t n tk K K (y.1, [], y.2.1, y.2.2) with
  | inr f => rw [hs] at h; cases h
  | inl r => rw [hs] at h; simp only at h; cases h; exact sumsL_le _ _ _ hs
theorem pre_sl {t : Int → Int} {n tk : Int} : ∀ (k : Nat) (q : Int × Bool) (U : List Int) (o : Int) (p : (Int × Bool) × List Int × Int), preY t n tk k q U o = .inl p → (p.2.1.length : Int) - p.1.1 ≤ U.length - q.1
  | 0, q, U, o, p, h => by cases h; exact Int.le_refl _
  | k + 1, q, U, o, p, h => by
    have s1 := skp_ge t n q.1
    have s2 := run_ge isL t n (skp t n q.1)
    have s3 := skp_ge t n (run isL t n (skp t n q.1))
    unfold preY at h
    by_cases g1 : nxt t n (.inl q) = 40
    · rw [if_pos g1] at h
      by_cases g2 : o = 6
      · rw [if_pos g2] at h; cases h
      · rw [if_neg g2] at h; have := pre_sl k _ _ _ _ h; simp only [List.length_cons] at this; omega
    · rw [if_neg g1] at h
      by_cases g3 : tw t n (.inl q) = 191594322 ∨ tw t n (.inl q) = 187539624
      · rw [if_pos g3] at h
        by_cases g4 : nxt t n (.inl (run isL t n (skp t n q.1), true)) = 40
        · rw [if_pos g4] at h
          by_cases g2 : o = 6
          · rw [if_pos g2] at h; cases h
          · rw [if_neg g2] at h; have := pre_sl k _ _ _ _ h; simp only [List.length_cons] at this; omega
        · rw [if_neg g4] at h; cases h
      · rw [if_neg g3] at h
        by_cases g5 : tk = 2 ∧ tw t n (.inl q) = 281319642
        · rw [if_pos g5] at h
          have lt := goT_lt (tw_w g5.2 (by decide))
          by_cases g2 : o = 6
          · rw [if_pos g2] at h; cases h
          · rw [if_neg g2] at h; have := pre_sl k _ _ _ _ h; simp only [List.length_cons] at this; omega
        · rw [if_neg g5] at h; cases h; exact Int.le_refl _
theorem op_len {t : Int → Int} {n tk : Int} {q : Int × Bool} {C : List Int} {r : (Int × Bool) × List Int} (h : opY t n tk q C = .inl r) : (r.2.length : Int) = C.length + 1 := by
  unfold opY at h
  by_cases g : wOf tk 0 11 (tw t n (.inl q)) ≠ -1
  · rw [if_pos g] at h
    cases h
    simp only [List.length_cons]; omega
  · rw [if_neg g] at h
    cases hn : numS t n 0 9999 (.inl q) with
    | inl q2 => rw [hn] at h; cases h; simp only [List.length_cons]; omega
    | inr f => rw [hn] at h; cases h
theorem part_sl {t : Int → Int} {n tk : Int} {k : Nat} {y y' : Y4} (h : partY t n tk k y = .inl y') : (y'.2.1.length + y'.2.2.1.length : Int) - y'.1.1 ≤ y.2.1.length + y.2.2.1.length - y.1.1 := by
  unfold partY at h
  cases hp : preY t n tk k y.1 y.2.1 y.2.2.2 with
  | inr f => rw [hp] at h; cases h
  | inl p =>
    rw [hp] at h
    simp only at h
    have h1 := pre_sl _ _ _ _ _ hp
    cases ho : opY t n tk p.1 y.2.2.1 with
    | inr f => rw [ho] at h; cases h
    | inl r =>
      rw [ho] at h
      simp only at h
      cases h
      have h2 := op_lt ho
      have h3 := op_len ho
      have h4 := ep_len p.2.1 r.2
      simp only
      omega
theorem cls_sl {t : Int → Int} {n : Int} : ∀ (k : Nat) (y : Y4), ((clsY t n k y).2.1.length + (clsY t n k y).2.2.1.length : Int) - (clsY t n k y).1.1 ≤ y.2.1.length + y.2.2.1.length - y.1.1
  | 0, y => Int.le_refl _
  | k + 1, y => by
    have s1 := skp_ge t n y.1.1
    unfold clsY
    split
    next g =>
      have h := cls_sl (t := t) (n := n) k ((skp t n y.1.1 + 1, false), epU (dtbU y.2.1).tail, epC (dtbU y.2.1).tail (if brk y.2.1 = 20 then dtbC y.2.1 y.2.2.1 else (if brk y.2.1 = 23 then 5 else 6) :: dtbC y.2.1 y.2.2.1), y.2.2.2 - 1 - epN (dtbU y.2.1).tail)
      have hd2 := dtb_hd y.2.1 (by omega)
      have hl2 := dtb_len y.2.1 y.2.2.1
      rw [hd2] at hl2
      have a4 := ep_len (dtbU y.2.1).tail (if brk y.2.1 = 20 then dtbC y.2.1 y.2.2.1 else (if brk y.2.1 = 23 then 5 else 6) :: dtbC y.2.1 y.2.2.1)
      have a5 : ((if brk y.2.1 = 20 then dtbC y.2.1 y.2.2.1 else (if brk y.2.1 = 23 then 5 else 6) :: dtbC y.2.1 y.2.2.1).length : Int) ≤ (dtbC y.2.1 y.2.2.1).length + 1 := by split <;> (try simp only [List.length_cons]) <;> omega
      simp only [List.length_cons] at h hl2
      omega
    next => exact Int.le_refl _
theorem goes_sl {t : Int → Int} {n : Int} {k : Nat} {y : Y4} {b : Bool} {y' : Y4} (h : goesY t n k y = .inl (b, y')) : (y'.2.1.length + y'.2.2.1.length : Int) - y'.1.1 ≤ y.2.1.length + y.2.2.1.length - y.1.1 := by
  have h1 := cls_sl (t := t) (n := n) k y
  unfold goesY nxtY at h
  generalize clsY t n k y = z at *
  have s1 := skp_ge t n z.1.1
  have d1 := dw_len p34 z.2.1 z.2.2.1
  have d2 := dw_len p14 z.2.1 z.2.2.1
  have d3 := dtb_len z.2.1 z.2.2.1
  by_cases a1 : nxt t n (.inl z.1) = 42 ∨ nxt t n (.inl z.1) = 47
  · rw [if_pos a1] at h; cases h; simp only [List.length_cons]; omega
  rw [if_neg a1] at h
  by_cases a2 : nxt t n (.inl z.1) = 43 ∨ nxt t n (.inl z.1) = 45
  · rw [if_pos a2] at h; cases h; simp only [List.length_cons]; omega
  rw [if_neg a2] at h
  by_cases a3 : brk z.2.1 = 21 ∨ brk z.2.1 = 22
  · rw [if_pos a3] at h
    have hd2 := dtb_hd z.2.1 (by omega)
    rw [hd2] at d3
    by_cases a4 : nxt t n (.inl z.1) = 44
    · rw [if_pos a4] at h; cases h; simp only [List.length_cons] at d3 ⊢; omega
    · rw [if_neg a4] at h; cases h
  rw [if_neg a3] at h
  by_cases a5 : brk z.2.1 ≠ -1
  · rw [if_pos a5] at h; cases h
  · rw [if_neg a5] at h; cases h; exact h1
theorem sumsL_sl {t : Int → Int} {n tk : Int} {K : Nat} : ∀ (k : Nat) (y y' : Y4), sumsL t n tk K k y = .inl y' → (y'.2.1.length + y'.2.2.1.length : Int) - y'.1.1 ≤ y.2.1.length + y.2.2.1.length - y.1.1
  | 0, y, y', h => by cases h; exact Int.le_refl _
  | k + 1, y, y', h => by
    unfold sumsL at h
    cases hp : partY t n tk K y with
    | inr f => rw [hp] at h; cases h
    | inl y1 =>
      rw [hp] at h
      simp only at h
      have h1 := part_sl hp
      cases hg : goesY t n K y1 with
      | inr f => rw [hg] at h; cases h
      | inl r =>
        rw [hg] at h
        simp only at h
        obtain ⟨b, y2⟩ := r
        have h2 := goes_sl hg
        cases b with
        | true => simp only [if_true] at h; have := sumsL_sl k y2 y' h; omega
        | false => simp only [Bool.false_eq_true, if_false] at h; cases h; omega
theorem sums_sl {t : Int → Int} {n tk : Int} {K : Nat} {y y' : Y3} (h : sumsY t n tk K y = .inl y') : (y'.2.1.length : Int) - y'.1.1 ≤ y.2.1.length - y.1.1 := by
  unfold sumsY at h
  cases hs : sumsL t n tk K K (y.1, [], y.2.1, y.2.2) with
  | inr f => rw [hs] at h; cases h
  | inl r =>
    rw [hs] at h; simp only at h; cases h
    have h1 := sumsL_sl _ _ _ hs
    have h2 := dw_len (fun _ => true) r.2.1 r.2.2.1
    simp only [List.length_nil] at h1 ⊢
    omega
theorem c_qFact {X : CX} {I R : PF} {t : Int → Int} {n tk : Int} {U C : List Int} {q : Int × Bool} {o : Int} {K : Nat} (hs : Shp R) (hK : n < K) (hB : BOK U) (h : YSt t n tk [] (q, U, C, o) I) :
    CN X 8 mX11_qFact [(2, 306)] I R (fun _ I' R' => YRes3 t n tk 2 U [] (factY t n tk K (q, C, o)) I' ∧ FR mY I I' ∧ R' = R) := by
  refine callee_b (by decide +kernel) (Nat.le_of_ble_eq_true rfl) rfl ?_
  have hB' : BOK (U ++ []) := by rw [List.append_nil]; exact hB
  have h' := h
  obtain ⟨m1, k1, o1, t1, t2, c1, c2, l1, w1⟩ := h'
  simp only at m1 k1 o1 c1 c2 l1
  have mle := m1.le
  refine S_X11_qFact_0 (d1 := 3) hs (by omega) (w_takes (a := 364) (c := 20962395) (by decide) hs m1 w1) (fun z I2 R2 qq => ?_)
  obtain ⟨(z1 : z = _), m2, f2, rfl, a2⟩ := qq
  have hb := bi_r (tw t n (.inl q) = 20962395)
  have k2 := k1.rd f2
  refine S_X11_qFact_8 (by omega) (fun g => ?_) (fun g => ?_)
  rotate_left
  · have c := bi_1 (fun c => g (z1.trans c))
    have e : takW t n 20962395 (.inl q) = .inl (run isL t n (skp t n q.1), true) := if_pos c
    rw [e] at m2
    have eF : factY t n tk K (q, C, o) = .inl ((run isL t n (skp t n q.1), true), 13 :: C, o) := if_pos c
    have lt := goT_lt (tw_w c (by decide))
    refine S_X11_qFact_11 (d1 := 1) (by omega) (c_qCode hs k2 (by omega)) (fun z4 I4 R4 qq => ?_)
    obtain ⟨v1, v2, rfl⟩ := qq
    have v2Q : FR mQ I2 I4 := v2.mono (fun x y c => by unfold mQ; omega)
    have f4 := f2.rdY.tr v2Q.qY
    refine S_X11_qFact_17 ⟨?_, f4, rfl⟩
    rw [eF]
    exact ⟨m2.q v2Q, v1, by rw [v2 306 107 (fun c => by omega), rd107 f2]; exact o1, (mY56 f4).trans t1, t2, c1, c2, by simp only [List.length_cons]; omega, w1.y f4⟩
  have c := bi_0 (z1.symm.trans g)
  have e : takW t n 20962395 (.inl q) = .inl q := if_neg c
  rw [e] at m2
  have y2 : YSt t n tk [] (q, U, C, o) I2 := ⟨m2, k2, (rd107 f2).trans o1, (mY56 f2.rdY).trans t1, t2, c1, c2, l1, w1.rd f2⟩
  have eF : factY t n tk K (q, C, o) = (match sumsY t n tk K (q, C, o) with
    | .inr f => .inr f
    | .inl y1 =>
      if nxt t n (.inl y1.1) = 60 ∨ nxt t n (.inl y1.1) = 62 ∨ nxt t n (.inl y1.1) = 61 then
        (match sumsY t n tk K ((skp t n y1.1.1 + 1, false), y1.2.1, y1.2.2) with
        | .inr f => .inr f
        | .inl y2 => .inl (y2.1, (if nxt t n (.inl y1.1) = 60 then 7 else if nxt t n (.inl y1.1) = 62 then 8 else 9) :: y2.2.1, y2.2.2))
      else .inr (1, skp t n y1.1.1)) := if_neg c
  rw [eF]
  refine S_X11_qFact_18 (d1 := 7) (by omega) (c_qSums hs hK hB' y2) (fun z3 I3 R3 qq => ?_)
  obtain ⟨s1, s2, rfl⟩ := qq
  have f3 := f2.rdY.tr s2
  cases hS : sumsY t n tk K (q, C, o) with
  | inr f =>
    rw [hS] at s1
    have s1' : YBd t n tk 1 [] f I3 := s1
    obtain ⟨b1, ⟨V, C', b2, b3⟩, b4, b5⟩ := s1'
    refine S_X11_qFact_22 b1.r5 (fun g => absurd g b1.bad) (fun _ => ?_)
    exact S_X11_qFact_29 ⟨⟨b1, ⟨V, C', b2, by omega⟩, b4, b5⟩, f3, rfl⟩
  | inl y1 =>
    rw [hS] at s1
    obtain ⟨q1, C1, o1'⟩ := y1
    have s1' : YSt t n tk [] (q1, U, C1, o1') I3 := s1
    have hle := sums_le hS
    simp only at hle ⊢
    have s1c := s1'
    obtain ⟨b1, b2, b3, b4, b5, b6, b7, b8, b9⟩ := s1c
    simp only at b1 b2 b3 b6 b7 b8
    have mle1 := b1.le
    refine S_X11_qFact_22 (by rw [b1.ok]; decide) (fun _ => ?_) (fun g => absurd b1.ok g)
    refine S_X11_qFact_30 (d1 := 1) (by omega) (c_look2 hs b1) (fun z4 I4 R4 qq => ?_)
    obtain ⟨(x1 : z4 = _), x2, x3, x4, rfl⟩ := qq
    have hr : -1 ≤ nxt t n (.inl q1) ∧ nxt t n (.inl q1) ≤ 255 := lkv_r b1.1 (by omega)
    have f4 := f3.tr x4.rdY
    have k4 := b2.rd x4
    have go : (nxt t n (.inl q1) = 60 ∨ nxt t n (.inl q1) = 62 ∨ nxt t n (.inl q1) = 61) → PN X 8 mX11_qFact 63 [(2, 306), (0, z4)] [] I4 R4 (fun _ I' R' => YRes3 t n tk 2 U [] (if nxt t n (.inl q1) = 60 ∨ nxt t n (.inl q1) = 62 ∨ nxt t n (.inl q1) = 61 then
        (match sumsY t n tk K ((skp t n q1.1 + 1, false), C1, o1') with
        | .inr f => .inr f
        | .inl y2 => .inl (y2.1, (if nxt t n (.inl q1) = 60 then 7 else if nxt t n (.inl q1) = 62 then 8 else 9) :: y2.2.1, y2.2.2))
      else .inr (1, skp t n q1.1)) I' ∧ FR mY I I' ∧ R' = R4) := fun hc => by
      rw [if_pos hc]
      have hn : skp t n q1.1 < n := hc.elim (fun c => lkv_n c (by decide)) (fun c => c.elim (fun c => lkv_n c (by decide)) (fun c => lkv_n c (by decide)))
      have f5 : FR mRd I4 (u2 I4 306 2 (I4 306 2 + 1)) := FR_u2 ⟨rfl, Or.inl rfl⟩
      have y5 : YSt t n tk [] ((skp t n q1.1 + 1, false), U, C1, o1') (u2 I4 306 2 (I4 306 2 + 1)) := ⟨x2.signed x3 hn (x2.e4 x3), k4.rd f5, by rw [rd107 f5, rd107 x4]; exact b3, by rw [mY56 f5.rdY, mY56 x4.rdY]; exact b4, t2, b6, b7, by simp only; omega, (b9.rd x4).rd f5⟩
      refine S_X11_qFact_63 (d1 := 7) (by omega) (c_qSums hs hK hB' y5) (fun z6 I6 R6 qq => ?_)
      obtain ⟨s6, s7, rfl⟩ := qq
      have f6 := (f4.tr f5.rdY).tr s7
      have fin : ∀ w, w = (if nxt t n (.inl q1) = 60 then (7 : Int) else if nxt t n (.inl q1) = 62 then 8 else 9) → PN X 8 mX11_qFact 102 [] [(0, w), (2, 306)] I6 R6 (fun _ I' R' => YRes3 t n tk 2 U [] (match sumsY t n tk K ((skp t n q1.1 + 1, false), C1, o1') with
        | .inr f => .inr f
        | .inl y2 => .inl (y2.1, (if nxt t n (.inl q1) = 60 then 7 else if nxt t n (.inl q1) = 62 then 8 else 9) :: y2.2.1, y2.2.2)) I' ∧ FR mY I I' ∧ R' = R6) := fun w hw => by
        cases hS2 : sumsY t n tk K ((skp t n q1.1 + 1, false), C1, o1') with
        | inr f =>
          rw [hS2] at s6
          have s6' : YBd t n tk 1 [] f I6 := s6
          obtain ⟨d1, ⟨V, C', d2, d3⟩, d4, d5⟩ := s6'
          refine S_X11_qFact_102 (d1 := 1) (by omega) (c_qCode hs d2 (by omega)) (fun z7 I7 R7 qq => ?_)
          obtain ⟨v1, v2, rfl⟩ := qq
          have v2Q : FR mQ I6 I7 := v2.mono (fun x y c => by unfold mQ; omega)
          refine S_X11_qFact_105 ⟨⟨d1.q v2Q, ⟨V, _, v1, ?_⟩, (mY56 v2Q.qY).trans d4, d5.q v2Q⟩, f6.tr v2Q.qY, rfl⟩
          simp only [List.length_cons]; omega
        | inl y2 =>
          rw [hS2] at s6
          obtain ⟨q2, C2, o2⟩ := y2
          have s6' : YSt t n tk [] (q2, U, C2, o2) I6 := s6
          have hle2 := sums_le hS2
          simp only at hle2 ⊢
          obtain ⟨d1, d2, d3, d4, d5, d6, d7, d8, d9⟩ := s6'
          simp only at d1 d2 d3 d6 d7 d8
          have mle2 := d1.le
          have sl2 := sums_sl hS2
          simp only at sl2
          refine S_X11_qFact_102 (d1 := 1) (by omega) (c_qCode hs d2 (by simp only [List.length_nil] at d8 b8 ⊢; omega)) (fun z7 I7 R7 qq => ?_)
          obtain ⟨v1, v2, rfl⟩ := qq
          have v2Q : FR mQ I6 I7 := v2.mono (fun x y c => by unfold mQ; omega)
          rw [← hw]
          refine S_X11_qFact_105 ⟨⟨d1.q v2Q, v1, ?_, (mY56 v2Q.qY).trans d4, t2, d6, d7, ?_, d9.q v2Q⟩, f6.tr v2Q.qY, rfl⟩
          · rw [v2 306 107 (fun c => by omega)]; exact d3
          · simp only [List.length_cons, List.length_nil] at d8 b8 ⊢; omega
      refine S_X11_qFact_77 (by omega) (fun g1 => ?_) (fun g1 => ?_)
      · refine S_X11_qFact_89 (by omega) (fun g2 => ?_) (fun g2 => ?_)
        · exact S_X11_qFact_100 (fin 9 (by rw [if_neg (by omega), if_neg (by omega)]))
        · exact S_X11_qFact_95 (fin 8 (by rw [if_neg (by omega), if_pos (by omega)]))
      · exact S_X11_qFact_84 (fin 7 (by rw [if_pos (by omega)]))
    refine S_X11_qFact_34 (by omega) (fun g1 => go (Or.inl (x1.symm.trans g1))) (fun g1 => ?_)
    refine S_X11_qFact_41 (by omega) (fun g2 => go (Or.inr (Or.inl (x1.symm.trans g2)))) (fun g2 => ?_)
    refine S_X11_qFact_47 (by omega) (fun g3 => go (Or.inr (Or.inr (x1.symm.trans g3)))) (fun g3 => ?_)
    rw [if_neg (fun c => by omega)]
    refine S_X11_qFact_53 (d1 := 1) (by omega) (c_fail x2.r5) (fun z9 I9 R9 qq => ?_)
    obtain ⟨q6, rfl⟩ := qq
    rw [if_pos x2.ok] at q6
    subst q6
    have g : FR mRd I4 (u2 (u2 I4 306 5 1) 306 6 (I4 306 2)) := (FR_u2 ⟨rfl, by decide⟩).tr (FR_u2 ⟨rfl, by decide⟩)
    have f9 := f4.tr g.rdY
    refine S_X11_qFact_62 ⟨⟨x2.fail x3 (by decide) (by decide), ⟨U, C1, k4.rd g, by omega⟩, (mY56 f9).trans t1, w1.y f9⟩, f9, rfl⟩
