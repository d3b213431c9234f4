/-! ===== the model reads a test ===== -/
theorem sums_lt {t : Int → Int} {n tk : Int} {K : Nat} {y y' : Y3} (h : sumsY t n tk K y = .inl y') (hK : 0 < K) : y.1.1 < y'.1.1 := by
  unfold sumsY at h
  cases hs : sumsL t n tk K K (y.1, [], y.2.1, y.2.2) with
  | inr f => rw [hs] at h; cases h
  | inl r =>
    rw [hs] at h; simp only at h; cases h
    obtain ⟨k, rfl⟩ : ∃ k, K = k + 1 := ⟨K - 1, by omega⟩
    unfold sumsL at hs
    cases hp : partY t n tk (k + 1) (y.1, [], y.2.1, y.2.2) with
    | inr f => rw [hp] at hs; cases hs
    | inl y1 =>
      rw [hp] at hs
      simp only at hs
      have h1 := part_lt hp
      simp only at h1
      cases hg : goesY t n (k + 1) y1 with
      | inr f => rw [hg] at hs; cases hs
      | inl r2 =>
        rw [hg] at hs
        simp only at hs
        obtain ⟨b, y2⟩ := r2
        have h2 := goes_le hg
        cases b with
        | true => simp only [if_true] at hs; have := sumsL_le k y2 r hs; simp only; omega
        | false => simp only [Bool.false_eq_true, if_false] at hs; cases hs; simp only; omega
theorem fact_lt {t : Int → Int} {n tk : Int} {K : Nat} {y y' : Y3} (h : factY t n tk K y = .inl y') (hK : 0 < K) : y.1.1 < y'.1.1 := by
  unfold factY at h
  by_cases c : tw t n (.inl y.1) = 20962395
  · rw [if_pos c] at h; cases h; exact (goT_lt (tw_w c (by decide))).1
  · rw [if_neg c] at h
    cases hs : sumsY t n tk K y with
    | inr f => rw [hs] at h; cases h
    | inl y1 =>
      rw [hs] at h
      simp only at h
      have h1 := sums_lt hs hK
      by_cases g : nxt t n (.inl y1.1) = 60 ∨ nxt t n (.inl y1.1) = 62 ∨ nxt t n (.inl y1.1) = 61
      · rw [if_pos g] at h
        cases hs2 : sumsY t n tk K ((skp t n y1.1.1 + 1, false), y1.2.1, y1.2.2) with
        | inr f => rw [hs2] at h; cases h
        | inl y2 =>
          rw [hs2] at h
          simp only at h
          cases h
          have h2 := sums_lt hs2 hK
          have h3 := skp_ge t n y1.1.1
          simp only at h2 ⊢
          omega
      · rw [if_neg g] at h; cases h
theorem clsT_le {t : Int → Int} {n : Int} : ∀ (k : Nat) (y : Y4), y.1.1 ≤ (clsT t n k y).1.1
  | 0, y => Int.le_refl _
  | k + 1, y => by
    have s1 := skp_ge t n y.1.1
    unfold clsT
    split
    · have h := clsT_le (t := t) (n := n) k ((skp t n y.1.1 + 1, false), dnU (dwU p25 y.2.1).tail, dnC (dwU p25 y.2.1).tail (dwC p25 y.2.1 y.2.2.1), y.2.2.2 - 1 - dnN (dwU p25 y.2.1).tail)
      simp only at h
      omega
    · exact Int.le_refl _
theorem goesT_le {t : Int → Int} {n : Int} {k : Nat} {y : Y4} {b : Bool} {y' : Y4} (h : goesT t n k y = .inl (b, y')) : y.1.1 ≤ y'.1.1 := by
  have h1 := clsT_le (t := t) (n := n) k y
  unfold goesT nxtT at h
  generalize clsT t n k y = z at *
  have s1 := skp_ge t n z.1.1
  have s2 := run_ge isL t n (skp t n z.1.1)
  by_cases a1 : tw t n (.inl z.1) = 21867813
  · rw [if_pos a1] at h; cases h; simp only; omega
  rw [if_neg a1] at h
  by_cases a2 : tw t n (.inl z.1) = 224799543
  · rw [if_pos a2] at h; cases h; simp only; omega
  rw [if_neg a2] at h
  by_cases a3 : 25 ∈ z.2.1
  · rw [if_pos a3] at h; cases h
  · rw [if_neg a3] at h; cases h; exact h1
noncomputable def testL (t : Int → Int) (n tk : Int) (K : Nat) : Nat → Y4 → Y4 ⊕ (Int × Int)
  | 0, y => .inl y
  | k + 1, y =>
    if nxt t n (.inl y.1) = 91 then (if y.2.2.2 = 6 then .inr (4, skp t n y.1.1) else testL t n tk K k ((skp t n y.1.1 + 1, false), 25 :: y.2.1, y.2.2.1, y.2.2.2 + 1))
    else if tw t n (.inl y.1) = 209249973 then (if y.2.2.2 = 6 then .inr (4, skp t n y.1.1) else testL t n tk K k ((run isL t n (skp t n y.1.1), true), 12 :: y.2.1, y.2.2.1, y.2.2.2 + 1))
    else match factY t n tk K (y.1, y.2.2.1, y.2.2.2) with
      | .inr f => .inr f
      | .inl y1 => match goesT t n K (y1.1, dnU y.2.1, dnC y.2.1 y1.2.1, y1.2.2 - dnN y.2.1) with
        | .inr f => .inr f
        | .inl r => if r.1 = true then testL t n tk K k r.2 else .inl r.2
noncomputable def testY (t : Int → Int) (n tk : Int) (K : Nat) (q : Int × Bool) : ((Int × Bool) × List Int) ⊕ (Int × Int) := match testL t n tk K K (q, [], [], 0) with
  | .inr f => .inr f
  | .inl r => .inl (r.1, dwC (fun _ => true) r.2.1 r.2.2.1)
def TRes4 (t : Int → Int) (n tk m : Int) (r : Y4 ⊕ (Int × Int)) (I : PF) : Prop := match r with
  | .inl y => YSt t n tk [] y I
  | .inr f => YBd t n tk m [] f I
theorem test_loop {X : CX} {d : Nat} {R : PF} {Q : PV → PF → PF → Prop} {t : Int → Int} {n tk : Int} {K : Nat} (hs : Shp R) (hd : 9 ≤ d) (hK : n < K) : ∀ (k : Nat) (y : Y4) (I : PF), (n - y.1.1).toNat < k → BOK y.2.1 → YSt t n tk [] y I →
    (∀ I', TRes4 t n tk 2 (testL t n tk K k y) I' → FR mY I I' → PN X d mX11_qTest 110 [(2, 306)] [] I' R Q) → PN X d mX11_qTest 2 [(2, 306), (0, 1)] [] I R Q := by
  intro k
  induction k with
  | zero => intro y I h; exact absurd h (Nat.not_lt_zero _)
  | succ k ih =>
    intro y I hk hB h hQ
    obtain ⟨q, U, C, o⟩ := y
    have h' := h
    obtain ⟨m1, k1, o1, t1, t2, c1, c2, l1, w1⟩ := h'
    simp only at m1 k1 o1 c1 c2 l1 hk hB
    rw [List.append_nil] at c1
    have mle := m1.le
    have oc0 := oc_0 U
    have K0 : 0 < K := by omega
    have unf : testL t n tk K (k + 1) (q, U, C, o) = (if nxt t n (.inl q) = 91 then (if o = 6 then .inr (4, skp t n q.1) else testL t n tk K k ((skp t n q.1 + 1, false), 25 :: U, C, o + 1))
      else if tw t n (.inl q) = 209249973 then (if o = 6 then .inr (4, skp t n q.1) else testL t n tk K k ((run isL t n (skp t n q.1), true), 12 :: U, C, o + 1))
      else match factY t n tk K (q, C, o) with
      | .inr f => .inr f
      | .inl y1 => match goesT t n K (y1.1, dnU U, dnC U y1.2.1, y1.2.2 - dnN U) with
        | .inr f => .inr f
        | .inl r => if r.1 = true then testL t n tk K k r.2 else .inl r.2) := rfl
    have bad : ∀ (f : Int × Int) (I' : PF), testL t n tk K (k + 1) (q, U, C, o) = .inr f → YBd t n tk 2 [] f I' → FR mY I I' → PN X d mX11_qTest 2 [(2, 306), (0, 1)] [] I' R Q := fun f I' e b ff => by
      rw [e] at hQ
      refine S_X11_qTest_2 (by decide) (fun g => absurd g (by decide)) (fun _ => ?_)
      exact S_X11_qTest_6 b.1.r5 (fun _ => hQ I' b ff) (fun g => absurd g b.1.bad)
    refine S_X11_qTest_2 (by decide) (fun g => absurd g (by decide)) (fun _ => ?_)
    refine S_X11_qTest_6 (by rw [m1.ok]; decide) (fun g => absurd m1.ok g) (fun _ => ?_)
    refine S_X11_qTest_13 (d1 := 1) (by omega) (c_look2 hs m1) (fun z I2 R2 qq => ?_)
    obtain ⟨(q1 : z = _), r2, r4, f3, rfl⟩ := qq
    have hr : -1 ≤ nxt t n (.inl q) ∧ nxt t n (.inl q) ≤ 255 := lkv_r m1.1 (by omega)
    have k3 := k1.rd f3
    refine S_X11_qTest_17 (by omega) (fun g => ?_) (fun g => ?_)
    rotate_left
    · have g : nxt t n (.inl q) = 91 := q1.symm.trans g
      rw [if_pos g] at unf
      have hn := lkv_n (t := t) (n := n) (a := skp t n q.1) g (by decide)
      refine S_X11_qTest_24 (d1 := 2) (by omega) (c_qOpens hs r2 r4 r4 k3 (by decide) (by rw [rd107 f3]; omega) (by simp only [List.length_nil] at l1 ⊢; omega)) (fun z4 I4 R4 qq => ?_)
      obtain ⟨rfl, f4, a4, s4⟩ := qq
      have f5 : FR mY I I4 := f3.rdY.tr f4
      refine S_X11_qTest_34 ?_
      have f6 : FR mY I (u2 I4 306 2 (I4 306 2 + 1)) := f5.tr (FR_u2 (Or.inl ⟨rfl, Or.inl rfl⟩))
      rw [rd107 f3, o1] at s4
      rcases s4 with ⟨s1, s2, s3⟩ | ⟨s1, s2, s3, s5⟩
      · rw [if_pos s1] at unf
        have s2 : MSt t n (.inr (4, skp t n q.1)) I4 := s2
        have b := s2.badAt (v := I4 306 2 + 1) (by rw [a4, r4]; omega) (by rw [a4, r4]; omega)
        exact bad _ _ unf (h.bd (by decide) f6 b (s3.fr (FR_u2 (P := fun x y => x = 306 ∧ y = 2) ⟨rfl, rfl⟩) (fun x y c => by omega)) (Int.le_refl _)) f6
      · rw [if_neg s1] at unf
        rw [unf] at hQ
        refine ih _ _ (by simp only; omega) (fun v hv => (List.mem_cons.mp hv).elim (fun e => by omega) (hB v)) ⟨s2.signed (by rw [a4]; exact r4) hn (s2.e4 (by rw [a4]; exact r4)), s3.fr (FR_u2 (P := fun x y => x = 306 ∧ y = 2) ⟨rfl, rfl⟩) (fun x y c => by omega), by rw [u2_j (by decide)]; exact s5, by rw [mY56 f6]; exact t1, t2, ?_, ?_, ?_, w1.y f6⟩ (fun I' e y => hQ I' e (f6.tr y))
        · simp only [List.append_nil, oc]; rw [if_pos (by decide)]; omega
        · simp only; omega
        · simp only [List.length_cons, List.length_nil] at l1 ⊢; omega
    have g : nxt t n (.inl q) ≠ 91 := fun c => g (q1.trans c)
    rw [if_neg g] at unf
    refine S_X11_qTest_47 (d1 := 2) hs (by omega) (w_here (a := 361) (c := 209249973) (by decide) hs r2 (w1.rd f3)) (fun z4 J4 R4 qq => ?_)
    obtain ⟨(u1 : z4 = _), u2', u3, rfl, u4⟩ := qq
    have u4 := u4 q rfl
    have f5 := f3.tr u3
    refine S_X11_qTest_55 (by have := bi_r (tw t n (.inl q) = 209249973); omega) (fun g1 => ?_) (fun g1 => ?_)
    rotate_left
    · have c := bi_1 (fun c => g1 (u1.trans c))
      rw [if_pos c] at unf
      have lt := goT_lt (tw_w c (by decide))
      refine S_X11_qTest_58 (d1 := 2) (by omega) (c_qOpens hs u2' u4 u4 (k1.rd f5) (by decide) (by rw [rd107 f5]; omega) (by simp only [List.length_nil] at l1 ⊢; omega)) (fun z6 J6 R6 qq => ?_)
      obtain ⟨rfl, f6, a6, s6⟩ := qq
      rw [rd107 f5, o1] at s6
      have f6' := f5.rdY.tr f6
      rcases s6 with ⟨s1, s2, s3⟩ | ⟨s1, s2, s3, s4⟩
      · rw [if_pos s1] at unf
        have s2 : MSt t n (.inr (4, skp t n q.1)) J6 := s2
        refine S_X11_qTest_68 (d1 := 4) hs (by omega) (w_asks (a := 361) (c := 209249973) (by decide) hs s2 (w1.y f6')) (fun z7 J7 R7 qq => ?_)
        obtain ⟨x1, x2, rfl⟩ := qq
        have e : askC t n 209249973 (.inr (4, skp t n q.1)) = .inr (4, skp t n q.1) := if_neg (show ¬ ((0 : Int) = 209249973) by decide)
        rw [e] at x1
        have f7 := f6'.tr x2.rdY
        exact S_X11_qTest_76 (bad _ _ unf (h.bd (by decide) f7 x1 (s3.rd x2) (Int.le_refl _)) f7)
      · rw [if_neg s1] at unf
        rw [unf] at hQ
        refine S_X11_qTest_68 (d1 := 4) hs (by omega) (w_asks (a := 361) (c := 209249973) (by decide) hs s2 (w1.y f6')) (fun z7 J7 R7 qq => ?_)
        obtain ⟨x1, x2, rfl⟩ := qq
        have e : askC t n 209249973 (.inl q) = .inl (run isL t n (skp t n q.1), true) := if_pos c
        rw [e] at x1
        have f7 := f6'.tr x2.rdY
        refine S_X11_qTest_76 (ih _ _ (by simp only; omega) (fun v hv => (List.mem_cons.mp hv).elim (fun e => by omega) (hB v)) ⟨x1, s3.rd x2, (rd107 x2).trans s4, (mY56 f7).trans t1, t2, ?_, ?_, ?_, w1.y f7⟩ (fun I' e y => hQ I' e (f7.tr y)))
        · simp only [List.append_nil, oc]; rw [if_pos (by decide)]; omega
        · simp only; omega
        · simp only [List.length_cons, List.length_nil] at l1 ⊢; omega
    have cN := bi_0 (u1.symm.trans g1)
    rw [if_neg cN] at unf
    have y5 : YSt t n tk [] (q, U, C, o) J4 := ⟨u2', k1.rd f5, (rd107 f5).trans o1, (mY56 f5.rdY).trans t1, t2, by simp only [List.append_nil]; exact c1, c2, l1, w1.rd f5⟩
    refine S_X11_qTest_79 (d1 := 8) (by omega) (c_qFact (K := K) hs hK hB y5) (fun z6 I6 R6 qq => ?_)
    obtain ⟨s1, s2, rfl⟩ := qq
    have f6 := f5.rdY.tr s2
    cases hF : factY t n tk K (q, C, o) with
    | inr f =>
      rw [hF] at s1 unf
      have s1' : YBd t n tk 2 [] f I6 := s1
      refine S_X11_qTest_83 (d1 := 3) (by omega) (c_qDropsNots_bad s1'.1.bad s1'.1.r5) (fun z7 I7 R7 qq => ?_)
      obtain ⟨rfl, rfl⟩ := qq
      refine S_X11_qTest_87 s1'.1.r5 (fun _ => ?_) (fun g => absurd g s1'.1.bad)
      rw [unf] at hQ
      exact S_X11_qTest_105 (S_X11_qTest_106 (S_X11_qTest_2 (by decide) (fun _ => hQ I7 s1' f6) (fun g => absurd rfl g)))
    | inl y1 =>
      rw [hF] at s1 unf
      obtain ⟨q1', C1, o1'⟩ := y1
      have s1' : YSt t n tk [] (q1', U, C1, o1') I6 := s1
      have flt := fact_lt hF K0
      simp only at flt unf
      obtain ⟨b1, b2, b3, b4, b5, b6, b7, b8, b9⟩ := s1'
      simp only at b1 b2 b3 b6 b7 b8
      rw [List.append_nil] at b6
      have mle1 := b1.le
      refine S_X11_qTest_83 (d1 := 3) (by omega) (c_qDropsNots hs b2 b1.ok) (fun z7 I7 R7 qq => ?_)
      obtain ⟨x1, x2, x3, rfl⟩ := qq
      have f7 := f6.tr x3.eY
      have a1 := oc_dn U
      have a4 := dn_len U C1
      have a5 := dnN_0 U
      have m7 := b1.q (mE_Q x3)
      have y7 : YSt t n tk [] (q1', dnU U, dnC U C1, o1' - dnN U) I7 := ⟨m7, x1, by rw [x2, b3], (mY56 f7).trans t1, t2, by simp only [List.append_nil]; omega, by simp only; omega, by simp only [List.length_nil] at b8 ⊢; omega, w1.y f7⟩
      have hB7 : BOK (dnU U) := hB.sub (dn_sub U)
      refine S_X11_qTest_87 (by rw [m7.ok]; decide) (fun g => absurd m7.ok g) (fun _ => ?_)
      refine S_X11_qTest_94 (d1 := 4) (by omega) (c_qGoesOnTest (k := K) hs (by simp only; omega) hB7 y7) (fun z8 I8 R8 qq => ?_)
      obtain ⟨v1, v2, rfl⟩ := qq
      have f8 := f7.tr v2
      cases hG : goesT t n K (q1', dnU U, dnC U C1, o1' - dnN U) with
      | inr f =>
        rw [hG] at v1 unf
        obtain ⟨(hz : z8 = 0), ⟨d1, ⟨V, C', d2, d3⟩, d4, d5⟩⟩ := v1
        rw [unf] at hQ
        refine S_X11_qTest_98 (by omega) (fun _ => ?_) (fun g => absurd hz g)
        exact S_X11_qTest_105 (S_X11_qTest_106 (S_X11_qTest_2 (by decide) (fun _ => hQ I8 ⟨d1, ⟨V, C', d2, by omega⟩, d4, d5⟩ f8) (fun g => absurd rfl g)))
      | inl r =>
        rw [hG] at v1 unf
        obtain ⟨(hz : z8 = _), v3, v4⟩ := v1
        obtain ⟨b, yb⟩ := r
        have gle := goesT_le hG
        simp only at gle v3 v4
        cases b with
        | true =>
          simp only [if_true] at unf
          rw [unf] at hQ
          have hz1 : z8 = 1 := hz
          refine S_X11_qTest_98 (by omega) (fun g => absurd (hz1.symm.trans g) (by decide)) (fun _ => ?_)
          exact S_X11_qTest_101 (S_X11_qTest_106 (ih yb I8 (by omega) v4 v3 (fun I' e y => hQ I' e (f8.tr y))))
        | false =>
          simp only [Bool.false_eq_true, if_false] at unf
          rw [unf] at hQ
          have hz1 : z8 = 0 := hz
          refine S_X11_qTest_98 (by omega) (fun _ => ?_) (fun g => absurd hz1 g)
          exact S_X11_qTest_105 (S_X11_qTest_106 (S_X11_qTest_2 (by decide) (fun _ => hQ I8 v3 f8) (fun g => absurd rfl g)))
