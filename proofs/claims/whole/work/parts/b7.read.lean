/-! ===== a question as read ===== -/
/-- which of the six words stands first: 6 for none -/
def kQ (t : Int → Int) (n : Int) : Int := if tw t n (.inl (0, false)) = sW 0 32 then 0 else if tw t n (.inl (0, false)) = sW 0 33 then 1 else if tw t n (.inl (0, false)) = sW 0 34 then 2 else if tw t n (.inl (0, false)) = sW 0 35 then 3 else if tw t n (.inl (0, false)) = sW 0 36 then 4 else if tw t n (.inl (0, false)) = sW 0 37 then 5 else 6
theorem kQ_r (t : Int → Int) (n : Int) : 0 ≤ kQ t n ∧ kQ t n ≤ 6 := by
  unfold kQ
  repeat' split
  all_goals omega
def q1Q (t : Int → Int) (n : Int) : Int × Bool := (run isL t n (skp t n 0), true)
/-- a question: its kind and codes, or its fault -/
noncomputable def quR (t : Int → Int) (n : Int) (K : Nat) : (Int × List Int) ⊕ (Int × Int) :=
  if kQ t n = 6 then .inr (1, skp t n 0) else
  match (if kQ t n < 3 then tstF t n 2 K (q1Q t n) else sumF t n 2 K (q1Q t n)) with
  | .inl y => if nxt t n (.inl y.1) = -1 then .inl (kQ t n, y.2) else .inr (1, skp t n y.1.1)
  | .inr f => .inr f
theorem sW_6 : sW 0 32 = 91245096 ∧ sW 0 33 = 173106882 ∧ sW 0 34 = 218819934 ∧ sW 0 35 = 295344468 ∧ sW 0 36 = 194895963 ∧ sW 0 37 = 174878163 := by decide
/-- the model reads the first word -/
theorem c_qKind {X : CX} {I R : PF} {t : Int → Int} {n : Int} (hs : Shp R) (hM : MSt t n (.inl (0, false)) I) (hc : CW I) :
    CN X 5 mX11_qKind [(2, 306)] I R (fun v I' R' => (if kQ t n = 6 then v.2 = 5 ∧ MSt t n (.inr (1, skp t n 0)) I' else v.2 = kQ t n ∧ MSt t n (.inl (q1Q t n)) I') ∧ FR mRd I I' ∧ R' = R) := by
  refine callee_b (by decide +kernel) (Nat.le_of_ble_eq_true rfl) rfl ?_
  obtain ⟨w0, w1, w2, w3, w4, w5⟩ := sW_6
  generalize hT : tw t n (.inl (0, false)) = T
  have kq : kQ t n = if T = 91245096 then 0 else if T = 173106882 then 1 else if T = 218819934 then 2 else if T = 295344468 then 3 else if T = 194895963 then 4 else if T = 174878163 then 5 else 6 := by unfold kQ; rw [hT, w0, w1, w2, w3, w4, w5]
  have fin : ∀ (J : PF) (k : Int), kQ t n = k → k ≠ 6 → k ≠ 5 → (0 ≤ k ∧ k < 6) → MSt t n (.inl (q1Q t n)) J → FR mRd I J → PN X 5 mX11_qKind 76 [(2, 306)] [(0, k)] J R (fun v I' R' => (if kQ t n = 6 then v.2 = 5 ∧ MSt t n (.inr (1, skp t n 0)) I' else v.2 = kQ t n ∧ MSt t n (.inl (q1Q t n)) I') ∧ FR mRd I I' ∧ R' = R) := fun J k hk h6 h5 hr hm f =>
    S_X11_qKind_76 (by omega) (fun _ => S_X11_qKind_90 ⟨by rw [if_neg (by omega)]; exact ⟨hk.symm, hm⟩, f, rfl⟩) (fun g => absurd g h5)
  have tk : ∀ {c : Int} {J : PF}, T = c → MSt t n (takW t n c (.inl (0, false))) J → MSt t n (.inl (q1Q t n)) J := fun {c J} h m => by
    unfold takW at m
    rw [if_pos (hT.trans h)] at m; exact m
  have nt : ∀ {c : Int} {J : PF}, T ≠ c → MSt t n (takW t n c (.inl (0, false))) J → MSt t n (.inl (0, false)) J := fun {c J} h m => by
    unfold takW at m
    rw [if_neg (fun k => h (hT.symm.trans k))] at m; exact m
  refine S_X11_qKind_0 (d1 := 3) hs (by omega) (w_takes (a := 355) (c := 91245096) (by decide) hs hM hc) (fun z1 I1 R1 q => ?_)
  obtain ⟨(hz1 : z1 = _), m1, f1, rfl, -⟩ := q
  rw [hT] at hz1
  have b1 := bi_r (T = 91245096)
  refine S_X11_qKind_8 (by omega) (fun g => ?_) (fun g => ?_)
  rotate_left
  · have c := bi_1 (c := T = 91245096) (by rw [← hz1]; exact g)
    exact S_X11_qKind_11 (fin I1 0 (by rw [kq, if_pos c]) (by decide) (by decide) (by decide) (tk c m1) f1)
  have n1 := bi_0 (c := T = 91245096) (hz1.symm.trans g)
  have m1 := nt n1 m1
  have hc1 := hc.rd f1
  refine S_X11_qKind_15 (d1 := 3) hs (by omega) (w_takes (a := 356) (c := 173106882) (by decide) hs m1 hc1) (fun z2 I2 R2 q => ?_)
  obtain ⟨(hz2 : z2 = _), m2, f2, rfl, -⟩ := q
  rw [hT] at hz2
  have b2 := bi_r (T = 173106882)
  have f2 := f1.tr f2
  refine S_X11_qKind_23 (by omega) (fun g => ?_) (fun g => ?_)
  rotate_left
  · have c := bi_1 (c := T = 173106882) (by rw [← hz2]; exact g)
    exact S_X11_qKind_26 (fin I2 1 (by rw [kq, if_neg n1, if_pos c]) (by decide) (by decide) (by decide) (tk c m2) f2)
  have n2 := bi_0 (c := T = 173106882) (hz2.symm.trans g)
  have m2 := nt n2 m2
  have hc2 := hc.rd f2
  refine S_X11_qKind_30 (d1 := 3) hs (by omega) (w_takes (a := 357) (c := 218819934) (by decide) hs m2 hc2) (fun z3 I3 R3 q => ?_)
  obtain ⟨(hz3 : z3 = _), m3, f3, rfl, -⟩ := q
  rw [hT] at hz3
  have b3 := bi_r (T = 218819934)
  have f3 := f2.tr f3
  refine S_X11_qKind_38 (by omega) (fun g => ?_) (fun g => ?_)
  rotate_left
  · have c := bi_1 (c := T = 218819934) (by rw [← hz3]; exact g)
    exact S_X11_qKind_41 (fin I3 2 (by rw [kq, if_neg n1, if_neg n2, if_pos c]) (by decide) (by decide) (by decide) (tk c m3) f3)
  have n3 := bi_0 (c := T = 218819934) (hz3.symm.trans g)
  have m3 := nt n3 m3
  have hc3 := hc.rd f3
  refine S_X11_qKind_45 (d1 := 3) hs (by omega) (w_takes (a := 358) (c := 295344468) (by decide) hs m3 hc3) (fun z4 I4 R4 q => ?_)
  obtain ⟨(hz4 : z4 = _), m4, f4, rfl, -⟩ := q
  rw [hT] at hz4
  have b4 := bi_r (T = 295344468)
  have f4 := f3.tr f4
  refine S_X11_qKind_53 (by omega) (fun g => ?_) (fun g => ?_)
  rotate_left
  · have c := bi_1 (c := T = 295344468) (by rw [← hz4]; exact g)
    exact S_X11_qKind_56 (fin I4 3 (by rw [kq, if_neg n1, if_neg n2, if_neg n3, if_pos c]) (by decide) (by decide) (by decide) (tk c m4) f4)
  have n4 := bi_0 (c := T = 295344468) (hz4.symm.trans g)
  have m4 := nt n4 m4
  have hc4 := hc.rd f4
  refine S_X11_qKind_60 (d1 := 3) hs (by omega) (w_takes (a := 359) (c := 194895963) (by decide) hs m4 hc4) (fun z5 I5 R5 q => ?_)
  obtain ⟨(hz5 : z5 = _), m5, f5, rfl, -⟩ := q
  rw [hT] at hz5
  have b5 := bi_r (T = 194895963)
  have f5 := f4.tr f5
  refine S_X11_qKind_68 (by omega) (fun g => ?_) (fun g => ?_)
  rotate_left
  · have c := bi_1 (c := T = 194895963) (by rw [← hz5]; exact g)
    exact S_X11_qKind_71 (fin I5 4 (by rw [kq, if_neg n1, if_neg n2, if_neg n3, if_neg n4, if_pos c]) (by decide) (by decide) (by decide) (tk c m5) f5)
  have n5 := bi_0 (c := T = 194895963) (hz5.symm.trans g)
  have m5 := nt n5 m5
  have hc5 := hc.rd f5
  refine S_X11_qKind_75 (S_X11_qKind_76 (by decide) (fun g => absurd rfl g) (fun _ => ?_))
  refine S_X11_qKind_82 (d1 := 4) hs (by omega) (w_asks (a := 360) (c := 174878163) (by decide) hs m5 hc5) (fun z6 I6 R6 q => ?_)
  obtain ⟨m6, f6, rfl⟩ := q
  refine S_X11_qKind_90 ⟨?_, f5.tr f6, rfl⟩
  unfold askC at m6
  by_cases c : T = 174878163
  · rw [if_pos (hT.trans c)] at m6
    rw [kq, if_neg n1, if_neg n2, if_neg n3, if_neg n4, if_neg n5, if_pos c, if_neg (by decide)]
    exact ⟨rfl, m6⟩
  · rw [if_neg (fun k => c (hT.symm.trans k))] at m6
    rw [kq, if_neg n1, if_neg n2, if_neg n3, if_neg n4, if_neg n5, if_neg c, if_pos rfl]
    exact ⟨rfl, m6⟩
