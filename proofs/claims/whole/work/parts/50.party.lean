/-! ===== the model reads a part ===== -/
/-- how many of the waiting signs stand open -/
def oc : List Int → Int
  | [] => 0
  | v :: r => (if v = 12 ∨ 20 ≤ v then 1 else 0) + oc r
theorem oc_0 : ∀ (L : List Int), 0 ≤ oc L
  | [] => by simp [oc]
  | v :: r => by have := oc_0 r; unfold oc; split <;> omega
theorem oc_app : ∀ (L K : List Int), oc (L ++ K) = oc L + oc K
  | [], K => by simp [oc]
  | v :: r, K => by have := oc_app r K; show (if v = 12 ∨ 20 ≤ v then (1 : Int) else 0) + oc (r ++ K) = (if v = 12 ∨ 20 ≤ v then 1 else 0) + oc r + oc K; omega
theorem oc_ep : ∀ (L : List Int), oc (epU L) = oc L - epN L
  | [] => by simp [oc, epU, epN]
  | v :: r => by
    have := oc_ep r
    unfold epU epN
    split
    · rw [this]; rw [show oc (v :: r) = (if v = 12 ∨ 20 ≤ v then 1 else 0) + oc r from rfl, if_pos (by omega)]; omega
    · omega
theorem ep_len : ∀ (L C : List Int), (epU L).length + (epC L C).length = L.length + C.length
  | [], C => rfl
  | v :: r, C => by
    have := ep_len r (v :: C)
    unfold epU epC
    split
    · rw [this]; simp only [List.length_cons]; omega
    · rfl
abbrev Y4 : Type := (Int × Bool) × List Int × List Int × Int
def YSt (t : Int → Int) (n tk : Int) (B : List Int) (y : Y4) (I : PF) : Prop := MSt t n (.inl y.1) I ∧ KSt I y.2.1 B y.2.2.1 ∧ I 306 107 = y.2.2.2 ∧ I 306 56 = tk ∧ (0 ≤ tk ∧ tk ≤ 2) ∧ oc (y.2.1 ++ B) ≤ y.2.2.2 ∧ y.2.2.2 ≤ 6 ∧ (y.2.1.length + B.length + y.2.2.1.length : Int) ≤ y.1.1 ∧ CW I
def YBd (t : Int → Int) (n tk m : Int) (B : List Int) (f : Int × Int) (I : PF) : Prop := MSt t n (.inr f) I ∧ (∃ U C, KSt I U B C ∧ (U.length + B.length + C.length : Int) ≤ 1600 + m) ∧ I 306 56 = tk ∧ CW I
def YRes (t : Int → Int) (n tk m : Int) (B : List Int) (r : Y4 ⊕ (Int × Int)) (I : PF) : Prop := match r with
  | .inl y => YSt t n tk B y I
  | .inr f => YBd t n tk m B f I
theorem CW.y {I I' : PF} (h : CW I) (g : FR mY I I') : CW I' := h.rows (fun a ha => funext fun i => g a i (fun c => by unfold mY mRd mQ at c; omega))
theorem mY56 {I I' : PF} (g : FR mY I I') : I' 306 56 = I 306 56 := g 306 56 (fun c => by unfold mY mRd mQ at c; omega)
theorem FR.rdY {I I' : PF} (g : FR mRd I I') : FR mY I I' := g.mono (fun x y c => Or.inl c)
theorem FR.qY {I I' : PF} (g : FR mQ I I') : FR mY I I' := g.mono (fun x y c => Or.inr c)
theorem FR.eY {I I' : PF} (g : FR mE I I') : FR mY I I' := g.mono (fun x y c => Or.inr (by unfold mE at c; unfold mQ; omega))
theorem rd107 {I I' : PF} (g : FR mRd I I') : I' 306 107 = I 306 107 := g 306 107 (fun c => by unfold mRd at c; omega)
theorem MSt.badAt {t : Int → Int} {n v : Int} {f : Int × Int} {I : PF} (h : MSt t n (.inr f) I) (h0 : 0 ≤ v) (h1 : v ≤ n) : MSt t n (.inr f) (u2 I 306 2 v) :=
  ⟨h.1.at h0 h1, (u2_j (by decide)).trans h.2.1, h.2.2.1, (u2_j (by decide)).trans h.2.2.2⟩
theorem MSt.le {t : Int → Int} {n : Int} {q : Int × Bool} {I : PF} (h : MSt t n (.inl q) I) : 0 ≤ q.1 ∧ q.1 ≤ n ∧ n ≤ 1600 ∧ q.1 ≤ skp t n q.1 ∧ skp t n q.1 ≤ n := by
  obtain ⟨⟨p1, p2, p3, p4, p5, p6, p7, p8, p9⟩, h1, h2, h3, h4, h5⟩ := h
  have := skp_ge t n q.1
  have := skp_le (t := t) (n := n) (p := q.1) (by omega)
  omega
theorem tw_w {t : Int → Int} {n c : Int} {q : Int × Bool} (h : tw t n (.inl q) = c) (hc : c ≠ 0) : isW t n q := by
  change (if isW t n q ∧ lenW t n q ≤ 6 then cdW t n q else 0) = c at h
  by_cases g : isW t n q ∧ lenW t n q ≤ 6
  · exact g.1
  · rw [if_neg g] at h; exact absurd h.symm hc
theorem goT_lt {t : Int → Int} {n : Int} {q : Int × Bool} (h : isW t n q) : q.1 < run isL t n (skp t n q.1) ∧ run isL t n (skp t n q.1) ≤ n := by
  have h1 := lenW_pos h
  have h2 := skp_ge t n q.1
  have h3 := run_le (f := isL) (t := t) (n := n) (p := skp t n q.1) (by have := h.1; omega)
  unfold lenW at h1
  omega
theorem isW_nxt {t : Int → Int} {n : Int} {q : Int × Bool} (h : isW t n q) : 97 ≤ nxt t n (.inl q) ∧ nxt t n (.inl q) ≤ 122 := by
  show 97 ≤ lkv t n _ ∧ lkv t n _ ≤ 122
  unfold lkv; rw [if_pos h.1]; exact isL_iff.mp h.2.1
/-- what stands ahead of a part -/
def preY (t : Int → Int) (n tk : Int) : Nat → (Int × Bool) → List Int → Int → ((Int × Bool) × List Int × Int) ⊕ (Int × Int)
  | 0, q, U, o => .inl (q, U, o)
  | k + 1, q, U, o =>
    if nxt t n (.inl q) = 40 then (if o = 6 then .inr (4, skp t n q.1) else preY t n tk k (skp t n q.1 + 1, false) (20 :: U) (o + 1))
    else if tw t n (.inl q) = 191594322 ∨ tw t n (.inl q) = 187539624 then
      (if nxt t n (.inl (run isL t n (skp t n q.1), true)) = 40 then (if o = 6 then .inr (4, skp t n (run isL t n (skp t n q.1))) else preY t n tk k (skp t n (run isL t n (skp t n q.1)) + 1, false) ((if tw t n (.inl q) = 191594322 then 21 else 22) :: U) (o + 1))
       else .inr (1, skp t n (run isL t n (skp t n q.1))))
    else if tk = 2 ∧ tw t n (.inl q) = 281319642 then (if o = 6 then .inr (4, skp t n q.1) else preY t n tk k (run isL t n (skp t n q.1), true) (60 :: U) (o + 1))
    else .inl (q, U, o)
theorem wOf_spin {tk c : Int} (ht : 0 ≤ tk ∧ tk ≤ 2) : wOf tk 11 12 c ≠ -1 ↔ tk = 2 ∧ c = 281319642 := by
  have hr := wk_r c
  unfold wOf
  constructor
  · intro h
    by_cases g : 11 ≤ wk c ∧ wk c < 12 ∧ al tk (wk c)
    · have e : wk c = 11 := by omega
      refine ⟨?_, ?_⟩
      · have := g.2.2
        unfold al at this
        rw [e] at this
        by_cases h0 : tk = 0
        · rw [if_pos h0] at this; omega
        · rw [if_neg h0] at this
          by_cases h1 : tk = 1
          · rw [if_pos h1] at this; omega
          · omega
      · have := wk_c e (by decide); simpa using this
    · rw [if_neg g] at h; exact absurd rfl h
  · rintro ⟨rfl, rfl⟩
    have e : wk 281319642 = 11 := by decide
    rw [e, if_pos ⟨by decide, by decide, by unfold al; decide⟩]
    decide
theorem wOf_11 {tk c : Int} (h : wOf tk 11 12 c ≠ -1) : wOf tk 11 12 c = 11 := by
  have hr := wk_r c
  unfold wOf at h ⊢
  by_cases g : 11 ≤ wk c ∧ wk c < 12 ∧ al tk (wk c)
  · rw [if_pos g]; omega
  · rw [if_neg g] at h; exact absurd rfl h
theorem YSt.bd {t : Int → Int} {n tk m : Int} {B : List Int} {y : Y4} {I I' : PF} {f : Int × Int} {U : List Int} (h : YSt t n tk B y I) (hm : 0 ≤ m) (g : FR mY I I') (b : MSt t n (.inr f) I') (k : KSt I' U B y.2.2.1) (hl : (U.length : Int) ≤ y.2.1.length) : YBd t n tk m B f I' := by
  obtain ⟨h1, h2, h3, h4, h5, h6, h7, h8, h9⟩ := h
  have := h1.le
  exact ⟨b, ⟨U, _, k, by omega⟩, by rw [mY56 g]; exact h4, h9.y g⟩
theorem c_qAsksWord_bad {X : CX} {I R : PF} {t : Int → Int} {n : Int} {f : Int × Int} (hs : Shp R) (hM : MSt t n (.inr f) I) (hc : CW I) :
    CN X 5 mX11_qAsksWord [(2, 306), (0, 11)] I R (fun _ I' R' => MSt t n (.inr f) I' ∧ FR mRd I I' ∧ R' = R) := by
  refine callee_b (by decide +kernel) (Nat.le_of_ble_eq_true rfl) rfl ?_
  refine S_X11_qAsksWord_0 (by omega) (fun g => absurd g (by decide)) (fun g => absurd g (by decide)) (fun g => absurd g (by decide)) (fun g => absurd g (by decide)) (fun g => absurd g (by decide)) (fun g => absurd g (by decide)) (fun g => absurd g (by decide)) (fun g => absurd g (by decide)) (fun g => absurd g (by decide)) (fun g => absurd g (by decide)) (fun g => absurd g (by decide)) (fun g => ?_)
  refine S_X11_qAsksWord_181 (d1 := 4) hs (by omega) (w_asks (a := 378) (c := 281319642) (by decide) hs hM hc) (fun z I2 R2 q => ?_)
  obtain ⟨q1, q2, rfl⟩ := q
  have e : askC t n 281319642 (.inr f) = .inr f := if_neg (show ¬ ((0 : Int) = 281319642) by decide)
  rw [e] at q1
  exact S_X11_qAsksWord_189 ⟨q1, q2, rfl⟩
theorem pre_loop {X : CX} {d : Nat} {R : PF} {Q : PV → PF → PF → Prop} {t : Int → Int} {n tk : Int} {B C : List Int} (hs : Shp R) (hd : 6 ≤ d) : ∀ (k : Nat) (q : Int × Bool) (U : List Int) (o : Int) (I : PF), (n - q.1).toNat < k → YSt t n tk B (q, U, C, o) I →
    (∀ q' U' o' I', preY t n tk k q U o = .inl (q', U', o') → YSt t n tk B (q', U', C, o') I' → FR mY I I' → PN X d mX11_qPartTold 186 [(2, 306)] [] I' R Q) →
    (∀ f I', preY t n tk k q U o = .inr f → YBd t n tk 0 B f I' → FR mY I I' → PN X d mX11_qPartTold 186 [(2, 306)] [] I' R Q) →
    PN X d mX11_qPartTold 2 [(2, 306), (0, 1)] [] I R Q := by
  intro k
  induction k with
  | zero => intro q U o I h; exact absurd h (Nat.not_lt_zero _)
  | succ k ih =>
    intro q U o I hk h hok hbad
    have h' := h
    obtain ⟨m1, k1, o1, t1, t2, c1, c2, l1, w1⟩ := h'
    simp only at m1 k1 o1 c1 c2 l1
    have mle := m1.le
    have oc0 := oc_0 (U ++ B)
    have unf : preY t n tk (k + 1) q U o = (if nxt t n (.inl q) = 40 then (if o = 6 then .inr (4, skp t n q.1) else preY t n tk k (skp t n q.1 + 1, false) (20 :: U) (o + 1))
      else if tw t n (.inl q) = 191594322 ∨ tw t n (.inl q) = 187539624 then
      (if nxt t n (.inl (run isL t n (skp t n q.1), true)) = 40 then (if o = 6 then .inr (4, skp t n (run isL t n (skp t n q.1))) else preY t n tk k (skp t n (run isL t n (skp t n q.1)) + 1, false) ((if tw t n (.inl q) = 191594322 then 21 else 22) :: U) (o + 1))
       else .inr (1, skp t n (run isL t n (skp t n q.1))))
      else if tk = 2 ∧ tw t n (.inl q) = 281319642 then (if o = 6 then .inr (4, skp t n q.1) else preY t n tk k (run isL t n (skp t n q.1), true) (60 :: U) (o + 1))
      else .inl (q, U, o)) := rfl
    refine S_X11_qPartTold_2 (by decide) (fun g => absurd g (by decide)) (fun _ => ?_)
    refine S_X11_qPartTold_6 (by rw [m1.ok]; decide) (fun g => absurd m1.ok g) (fun _ => ?_)
    refine S_X11_qPartTold_13 (d1 := 1) (by omega) (c_look2 hs m1) (fun z I2 R2 qq => ?_)
    obtain ⟨(q1 : z = _), q2, q3, q4, rfl⟩ := qq
    have hr : -1 ≤ nxt t n (.inl q) ∧ nxt t n (.inl q) ≤ 255 := lkv_r m1.1 (by omega)
    refine S_X11_qPartTold_17 (d1 := 4) (by omega) (c_qWordOf hs q2 (w1.rd q4) (by rw [q4.rdY |> mY56]; omega) (by decide) (by decide)) (fun z3 I3 R3 qq => ?_)
    obtain ⟨(r1 : z3 = _), r2, r3, rfl, r4⟩ := qq
    have r4 := r4 q rfl
    rw [mY56 q4.rdY, t1] at r1
    have f3 : FR mRd I I3 := q4.tr r3
    have k3 := k1.rd f3
    have h56 : I3 306 56 = tk := (mY56 f3.rdY).trans t1
    refine S_X11_qPartTold_26 (by omega) (fun g => ?_) (fun g => ?_)
    rotate_left
    · -- an open bracket
      have g : nxt t n (.inl q) = 40 := q1.symm.trans g
      rw [unf, if_pos g] at hok hbad
      have hn := lkv_n (t := t) (n := n) (a := skp t n q.1) g (by decide)
      refine S_X11_qPartTold_33 (d1 := 2) (by omega) (c_qOpens hs r2 r4 r4 k3 (by decide) (by rw [rd107 f3]; omega) (by omega)) (fun z4 I4 R4 qq => ?_)
      obtain ⟨rfl, f4, a4, s4⟩ := qq
      have f5 : FR mY I I4 := f3.rdY.tr f4
      refine S_X11_qPartTold_43 (S_X11_qPartTold_183 ?_)
      have f6 : FR mY I (u2 I4 306 2 (I4 306 2 + 1)) := f5.tr (FR_u2 (Or.inl ⟨rfl, Or.inl rfl⟩))
      rw [rd107 f3, o1] at s4
      rcases s4 with ⟨s1, s2, s3⟩ | ⟨s1, s2, s3, s5⟩
      · rw [if_pos s1] at hbad
        have s2 : MSt t n (.inr (4, skp t n q.1)) I4 := s2
        have b := s2.badAt (v := I4 306 2 + 1) (by rw [a4, r4]; omega) (by rw [a4, r4]; omega)
        refine S_X11_qPartTold_2 (by decide) (fun g => absurd g (by decide)) (fun _ => ?_)
        refine S_X11_qPartTold_6 b.r5 (fun _ => ?_) (fun g => absurd g b.bad)
        exact hbad _ _ rfl (h.bd (by decide) f6 b (s3.fr (FR_u2 (P := fun x y => x = 306 ∧ y = 2) ⟨rfl, rfl⟩) (fun x y c => by omega)) (Int.le_refl _)) f6
      · rw [if_neg s1] at hok hbad
        refine ih _ _ _ _ (by simp only; omega) ⟨s2.signed (by rw [a4]; exact r4) hn (s2.e4 (by rw [a4]; exact r4)), s3.fr (FR_u2 (P := fun x y => x = 306 ∧ y = 2) ⟨rfl, rfl⟩) (fun x y c => by omega), by rw [u2_j (by decide)]; exact s5, by rw [mY56 f6]; exact t1, t2, ?_, ?_, ?_, w1.y f6⟩ (fun q' U' o' I' e y f => hok q' U' o' I' e y (f6.tr f)) (fun f' I' e y f => hbad f' I' e y (f6.tr f))
        · simp only [List.cons_append, oc]; rw [if_pos (by decide)]; omega
        · simp only; omega
        · simp only [List.length_cons]; omega
    · have g : nxt t n (.inl q) ≠ 40 := fun c => g (q1.trans c)
      rw [unf, if_neg g] at hok hbad
      have key101 : ∀ (J : PF) (x4 : Int), isW t n q → MSt t n (.inl (run isL t n (skp t n q.1), true)) J → FR mRd I J → x4 = bi (tw t n (.inl q) = 191594322) → (tw t n (.inl q) = 191594322 ∨ tw t n (.inl q) = 187539624) → PN X d mX11_qPartTold 101 [(2, 306), (0, 1), (9, 0), (9, 0), (0, x4)] [] J R3 Q := fun J x4 hW mJ fJ hx hmm => by
        rw [if_pos hmm] at hok hbad
        have hb4 := bi_r (tw t n (.inl q) = 191594322)
        have lt := goT_lt hW
        have kJ := k1.rd fJ
        refine S_X11_qPartTold_101 (d1 := 1) (by omega) (c_look2 hs mJ) (fun z4 J4 R4 qq => ?_)
        obtain ⟨(u1 : z4 = _), u2', u3, u4, rfl⟩ := qq
        have mle2 := mJ.le
        simp only at mle2 u3
        have f4 := fJ.tr u4
        have hr2 : -1 ≤ nxt t n (.inl (run isL t n (skp t n q.1), true)) ∧ nxt t n (.inl (run isL t n (skp t n q.1), true)) ≤ 255 := lkv_r mJ.1 (by simp only; omega)
        have k4 := k1.rd f4
        refine S_X11_qPartTold_105 (by omega) (fun g1 => ?_) (fun g1 => ?_)
        · have g1 : nxt t n (.inl (run isL t n (skp t n q.1), true)) ≠ 40 := fun c => g1 (u1.trans c)
          rw [if_neg g1] at hbad
          refine S_X11_qPartTold_117 (S_X11_qPartTold_118 (by decide) (fun _ => ?_) (fun g2 => absurd rfl g2))
          refine S_X11_qPartTold_144 (d1 := 3) (by omega) (c_asksSign hs u2' (by decide)) (fun z5 J5 R5 qq => ?_)
          obtain ⟨v1, v2, rfl⟩ := qq
          have e : askS t n 40 (.inl (run isL t n (skp t n q.1), true)) = .inr (1, skp t n (run isL t n (skp t n q.1))) := if_neg g1
          rw [e] at v1
          have f5 := (f4.tr v2).rdY
          refine S_X11_qPartTold_150 (S_X11_qPartTold_183 ?_)
          refine S_X11_qPartTold_2 (by decide) (fun g => absurd g (by decide)) (fun _ => ?_)
          refine S_X11_qPartTold_6 v1.r5 (fun _ => ?_) (fun g => absurd g v1.bad)
          exact hbad _ _ rfl (h.bd (by decide) f5 v1 (k4.rd v2) (Int.le_refl _)) f5
        · have g1 : nxt t n (.inl (run isL t n (skp t n q.1), true)) = 40 := u1.symm.trans g1
          rw [if_pos g1] at hok hbad
          have hn2 := lkv_n (t := t) (n := n) (a := skp t n (run isL t n (skp t n q.1))) g1 (by decide)
          refine S_X11_qPartTold_110 (S_X11_qPartTold_118 (by omega) (fun g2 => by omega) (fun _ => ?_))
          have key139 : ∀ w, inR w → w = (if tw t n (.inl q) = 191594322 then 21 else 22) → PN X d mX11_qPartTold 139 [(2, 306), (0, 1), (9, 0), (9, 0), (9, 0), (0, J4 306 2)] [(0, w), (2, 306)] J4 R4 Q := fun w hw hwe => by
            refine S_X11_qPartTold_139 (d1 := 2) (by omega) (c_qOpens hs u2' u3 u3 k4 hw (by rw [rd107 f4]; omega) (by omega)) (fun z5 J5 R5 qq => ?_)
            obtain ⟨rfl, f5, a5, s5⟩ := qq
            rw [rd107 f4, o1] at s5
            have w5 := w1.y (f4.rdY.tr f5)
            rcases s5 with ⟨s1, s2, s3⟩ | ⟨s1, s2, s3, s4⟩
            · rw [if_pos s1] at hbad
              have s2 : MSt t n (.inr (4, skp t n (run isL t n (skp t n q.1)))) J5 := s2
              refine S_X11_qPartTold_144 (d1 := 3) (by omega) (c_asksSign hs s2 (by decide)) (fun z6 J6 R6 qq => ?_)
              obtain ⟨v1, v2, rfl⟩ := qq
              have e : askS t n 40 (.inr (4, skp t n (run isL t n (skp t n q.1)))) = .inr (4, skp t n (run isL t n (skp t n q.1))) := if_neg (show ¬ ((-1 : Int) = 40) by decide)
              rw [e] at v1
              have f6 := (f4.rdY.tr f5).tr v2.rdY
              refine S_X11_qPartTold_150 (S_X11_qPartTold_183 ?_)
              refine S_X11_qPartTold_2 (by decide) (fun g => absurd g (by decide)) (fun _ => ?_)
              refine S_X11_qPartTold_6 v1.r5 (fun _ => ?_) (fun g => absurd g v1.bad)
              exact hbad _ _ rfl (h.bd (by decide) f6 v1 (s3.rd v2) (Int.le_refl _)) f6
            · rw [if_neg s1] at hok hbad
              refine S_X11_qPartTold_144 (d1 := 3) (by omega) (c_asksSign hs s2 (by decide)) (fun z6 J6 R6 qq => ?_)
              obtain ⟨v1, v2, rfl⟩ := qq
              have e : askS t n 40 (.inl (run isL t n (skp t n q.1), true)) = .inl (skp t n (run isL t n (skp t n q.1)) + 1, false) := if_pos g1
              rw [e] at v1
              have f6 := (f4.rdY.tr f5).tr v2.rdY
              refine S_X11_qPartTold_150 (S_X11_qPartTold_183 ?_)
              refine ih _ _ _ _ (by simp only; omega) ⟨v1, by rw [← hwe]; exact s3.rd v2, (rd107 v2).trans s4, (mY56 f6).trans t1, t2, ?_, ?_, ?_, w1.y f6⟩ (fun q' U' o' I' e y f => hok q' U' o' I' e y (f6.tr f)) (fun f' I' e y f => hbad f' I' e y (f6.tr f))
              · simp only [List.cons_append, oc]; rw [if_pos (by split <;> decide)]; omega
              · simp only; omega
              · simp only [List.length_cons]; omega
          refine S_X11_qPartTold_126 (by omega) (fun g2 => ?_) (fun g2 => ?_)
          · have c := bi_0 (hx.symm.trans g2)
            exact S_X11_qPartTold_137 (key139 22 (by decide) (if_neg c).symm)
          · have c := bi_1 (fun c => g2 (hx.trans c))
            exact S_X11_qPartTold_132 (key139 21 (by decide) (if_pos c).symm)
      have key78 : ∀ J, MSt t n (.inl q) J → FR mRd I J → (tw t n (.inl q) = 191594322 ∨ tw t n (.inl q) = 187539624) → PN X d mX11_qPartTold 78 [(2, 306), (0, 1)] [] J R3 Q := fun J mJ fJ hmm => by
        have hW : isW t n q := hmm.elim (fun h => tw_w h (by decide)) (fun h => tw_w h (by decide))
        refine S_X11_qPartTold_78 (d1 := 3) hs (by omega) (w_takes (a := 365) (c := 191594322) (by decide) hs mJ (w1.rd fJ)) (fun z4 J4 R4 qq => ?_)
        obtain ⟨(u1 : z4 = _), u2', u3, rfl, u4⟩ := qq
        have hb4 := bi_r (tw t n (.inl q) = 191594322)
        refine S_X11_qPartTold_86 (by omega) (fun g1 => ?_) (fun g1 => ?_)
        · have c := bi_1 (fun c => g1 (u1.trans c))
          have e : takW t n 191594322 (.inl q) = .inl (run isL t n (skp t n q.1), true) := if_pos c
          rw [e] at u2'
          exact key101 J4 z4 hW u2' (fJ.tr u3) u1 hmm
        · have c := bi_0 (u1.symm.trans g1)
          have e : takW t n 191594322 (.inl q) = .inl q := if_neg c
          rw [e] at u2'
          refine S_X11_qPartTold_93 (d1 := 4) hs (by omega) (w_asks (a := 366) (c := 187539624) (by decide) hs u2' (w1.rd (fJ.tr u3))) (fun z5 J5 R5 qq => ?_)
          obtain ⟨v1, v2, rfl⟩ := qq
          have e2 : askC t n 187539624 (.inl q) = .inl (run isL t n (skp t n q.1), true) := if_pos (hmm.resolve_left c)
          rw [e2] at v1
          exact key101 J5 z4 hW v1 ((fJ.tr u3).tr v2) u1 hmm
      refine S_X11_qPartTold_56 (d1 := 2) hs (by omega) (w_here (a := 365) (c := 191594322) (by decide) hs r2 (w1.rd f3)) (fun z4 J4 R4 qq => ?_)
      obtain ⟨(u1 : z4 = _), u2', u3, rfl, u4⟩ := qq
      have hb4 := bi_r (tw t n (.inl q) = 191594322)
      refine S_X11_qPartTold_64 (by omega) (fun g1 => ?_) (fun g1 => ?_)
      · exact key78 J4 u2' (f3.tr u3) (Or.inl (bi_1 (fun c => g1 (u1.trans c))))
      have c1' := bi_0 (u1.symm.trans g1)
      refine S_X11_qPartTold_67 (d1 := 2) hs (by omega) (w_here (a := 366) (c := 187539624) (by decide) hs u2' (w1.rd (f3.tr u3))) (fun z5 J5 R5 qq => ?_)
      obtain ⟨(v1 : z5 = _), v2, v3, rfl, v4⟩ := qq
      have v4 := v4 q rfl
      have hb5 := bi_r (tw t n (.inl q) = 187539624)
      have f5 := (f3.tr u3).tr v3
      refine S_X11_qPartTold_75 (by omega) (fun g2 => ?_) (fun g2 => ?_)
      rotate_left
      · exact key78 J5 v2 f5 (Or.inr (bi_1 (fun c => g2 (v1.trans c))))
      have c2' := bi_0 (v1.symm.trans g2)
      rw [if_neg (fun c => c.elim c1' c2')] at hok hbad
      have hsp := wOf_spin (c := tw t n (.inl q)) t2
      have hwr : inR (wOf tk 11 12 (tw t n (.inl q))) := by
        by_cases x : wOf tk 11 12 (tw t n (.inl q)) = -1
        · rw [x]; decide
        · rw [wOf_11 x]; decide
      refine S_X11_qPartTold_153 (by rw [r1]; exact hwr) (fun g3 => ?_) (fun g3 => ?_)
      · have hn : ¬ (tk = 2 ∧ tw t n (.inl q) = 281319642) := fun c => (hsp.mpr c) (r1.symm.trans g3)
        rw [if_neg hn] at hok
        refine S_X11_qPartTold_181 (S_X11_qPartTold_183 (S_X11_qPartTold_2 (by decide) (fun _ => ?_) (fun g => absurd rfl g)))
        exact hok q U o J5 rfl ⟨v2, k1.rd f5, (rd107 f5).trans o1, (mY56 f5.rdY).trans t1, t2, c1, c2, l1, w1.rd f5⟩ f5.rdY
      · have hw3 : wOf tk 11 12 (tw t n (.inl q)) ≠ -1 := fun c => g3 (r1.trans c)
        have hy := hsp.mp hw3
        have e11 := wOf_11 hw3
        rw [if_pos hy] at hok hbad
        have hW : isW t n q := tw_w hy.2 (by decide)
        have lt := goT_lt hW
        have e3 : z3 = 11 := r1.trans e11
        subst e3
        refine S_X11_qPartTold_158 (d1 := 2) (by omega) (c_qOpens hs v2 v4 v4 (k1.rd f5) (by decide) (by rw [rd107 f5]; omega) (by omega)) (fun z6 J6 R6 qq => ?_)
        obtain ⟨rfl, f6, a6, s6⟩ := qq
        rw [rd107 f5, o1] at s6
        have f6' := f5.rdY.tr f6
        rcases s6 with ⟨s1, s2, s3⟩ | ⟨s1, s2, s3, s4⟩
        · rw [if_pos s1] at hbad
          have s2 : MSt t n (.inr (4, skp t n q.1)) J6 := s2
          refine S_X11_qPartTold_173 (d1 := 5) (by omega) (c_qAsksWord_bad hs s2 (w1.y f6')) (fun z7 J7 R7 qq => ?_)
          obtain ⟨x1, x2, rfl⟩ := qq
          have f7 := f6'.tr x2.rdY
          refine S_X11_qPartTold_178 (S_X11_qPartTold_183 ?_)
          refine S_X11_qPartTold_2 (by decide) (fun g => absurd g (by decide)) (fun _ => ?_)
          refine S_X11_qPartTold_6 x1.r5 (fun _ => ?_) (fun g => absurd g x1.bad)
          exact hbad _ _ rfl (h.bd (by decide) f7 x1 (s3.rd x2) (Int.le_refl _)) f7
        · rw [if_neg s1] at hok hbad
          refine S_X11_qPartTold_173 (d1 := 5) (by omega) (c_qAsksWord hs s2 (w1.y f6') (by rw [hy.2]; decide) (by decide)) (fun z7 J7 R7 qq => ?_)
          obtain ⟨x1, x2, rfl⟩ := qq
          have f7 := f6'.tr x2.rdY
          refine S_X11_qPartTold_178 (S_X11_qPartTold_183 ?_)
          refine ih _ _ _ _ (by simp only; omega) ⟨x1, s3.rd x2, (rd107 x2).trans s4, (mY56 f7).trans t1, t2, ?_, ?_, ?_, w1.y f7⟩ (fun q' U' o' I' e y f => hok q' U' o' I' e y (f7.tr f)) (fun f' I' e y f => hbad f' I' e y (f7.tr f))
          · simp only [List.cons_append, oc]; rw [if_pos (by decide)]; omega
          · simp only; omega
          · simp only [List.length_cons]; omega
noncomputable def opY (t : Int → Int) (n tk : Int) (q : Int × Bool) (C : List Int) : ((Int × Bool) × List Int) ⊕ (Int × Int) :=
  if wOf tk 0 11 (tw t n (.inl q)) ≠ -1 then .inl ((run isL t n (skp t n q.1), true), (40 + wOf tk 0 11 (tw t n (.inl q))) :: C)
  else match numS t n 0 9999 (.inl q) with
    | .inl q' => .inl (q', (1000 + valN t n q) :: C)
    | .inr f => .inr f
noncomputable def partY (t : Int → Int) (n tk : Int) (k : Nat) (y : Y4) : Y4 ⊕ (Int × Int) := match preY t n tk k y.1 y.2.1 y.2.2.2 with
  | .inr f => .inr f
  | .inl p => match opY t n tk p.1 y.2.2.1 with
    | .inr f => .inr f
    | .inl r => .inl (r.1, epU p.2.1, epC p.2.1 r.2, p.2.2 - epN p.2.1)
theorem wOf_wk {tk a b c : Int} (h : wOf tk a b c ≠ -1) : wOf tk a b c = wk c ∧ a ≤ wk c ∧ wk c < b ∧ al tk (wk c) := by
  unfold wOf at h ⊢
  by_cases g : a ≤ wk c ∧ wk c < b ∧ al tk (wk c)
  · rw [if_pos g]; exact ⟨rfl, g⟩
  · rw [if_neg g] at h; exact absurd rfl h
theorem wOf_r (tk a b c : Int) : -1 ≤ wOf tk a b c ∧ wOf tk a b c ≤ 11 := by
  by_cases h : wOf tk a b c = -1
  · omega
  · have := wOf_wk h; have := wk_r c; omega
theorem num_lt {t : Int → Int} {n lo hi : Int} {q q' : Int × Bool} (h : numS t n lo hi (.inl q) = .inl q') : q' = (run isD t n (skp t n q.1), true) ∧ isNb t n q ∧ q.1 < q'.1 ∧ lenN t n q ≤ 4 ∧ lo ≤ valN t n q ∧ valN t n q ≤ hi := by
  change (if ¬ isNb t n q then _ else if 4 < lenN t n q then _ else if valN t n q < lo ∨ hi < valN t n q then _ else _) = _ at h
  by_cases h1 : isNb t n q
  · rw [if_neg (fun c => c h1)] at h
    by_cases h2 : 4 < lenN t n q
    · rw [if_pos h2] at h; cases h
    · rw [if_neg h2] at h
      by_cases h3 : valN t n q < lo ∨ hi < valN t n q
      · rw [if_pos h3] at h; cases h
      · rw [if_neg h3] at h
        cases h
        have e := run_ge isD t n (skp t n q.1 + 1)
        rw [← run_y h1.1 h1.2.1] at e
        have e2 := skp_ge t n q.1
        exact ⟨rfl, h1, by simp only; omega, by omega, by omega, by omega⟩
  · rw [if_pos h1] at h; cases h
theorem c_qPartTold {X : CX} {I R : PF} {t : Int → Int} {n tk : Int} {B : List Int} {y : Y4} {k : Nat} (hs : Shp R) (hk : (n - y.1.1).toNat < k) (h : YSt t n tk B y I) :
    CN X 6 mX11_qPartTold [(2, 306)] I R (fun _ I' R' => YRes t n tk 1 B (partY t n tk k y) I' ∧ FR mY I I' ∧ R' = R) := by
  refine callee_b (by decide +kernel) (Nat.le_of_ble_eq_true rfl) rfl ?_
  obtain ⟨q, U, C, o⟩ := y
  refine S_X11_qPartTold_0 (pre_loop hs (by omega) k q U o I hk h (fun q1 U1 o1 I1 e y1 f1 => ?_) (fun f I1 e y1 f1 => ?_))
  rotate_left
  · have e2 : partY t n tk k (q, U, C, o) = .inr f := by unfold partY; simp only [e]
    refine S_X11_qPartTold_186 y1.1.r5 (fun g => absurd g y1.1.bad) (fun _ => ?_)
    refine S_X11_qPartTold_193 ⟨?_, f1, rfl⟩
    rw [e2]
    obtain ⟨b1, ⟨U', C', b2, b3⟩, b4, b5⟩ := y1
    exact ⟨b1, ⟨U', C', b2, by omega⟩, b4, b5⟩
  have y1' := y1
  obtain ⟨m1, k1, p1, t1, t2, c1, c2, l1, w1⟩ := y1'
  simp only at m1 k1 p1 c1 c2 l1
  have mle := m1.le
  refine S_X11_qPartTold_186 (by rw [m1.ok]; decide) (fun _ => ?_) (fun g => absurd m1.ok g)
  refine S_X11_qPartTold_194 (d1 := 4) (by omega) (c_qWordOf hs m1 w1 (by omega) (by decide) (by decide)) (fun z I2 R2 qq => ?_)
  obtain ⟨(r1 : z = _), r2, r3, rfl, r4⟩ := qq
  rw [t1] at r1
  have hr := wOf_r tk 0 11 (tw t n (.inl q1))
  have k2 := k1.rd r3
  have ep : ∀ (q2 : Int × Bool) (C2 : List Int) (I3 : PF), q1.1 < q2.1 → C2.length = C.length + 1 → MSt t n (.inl q2) I3 → KSt I3 U1 B C2 → I3 306 107 = o1 → FR mY I I3 → opY t n tk q1 C = .inl (q2, C2) → PN X 6 mX11_qPartTold 240 [(2, 306)] [] I3 R2 (fun _ I' R' => YRes t n tk 1 B (partY t n tk k (q, U, C, o)) I' ∧ FR mY I I' ∧ R' = R2) := fun q2 C2 I3 hlt hC m3 k3 p3 f3 eo => by
    have e2 : partY t n tk k (q, U, C, o) = .inl (q2, epU U1, epC U1 C2, o1 - epN U1) := by unfold partY; simp only [e, eo]
    refine S_X11_qPartTold_240 (d1 := 3) (by omega) (c_qEndsPart hs k3 m3.ok) (fun z4 I4 R4 qq => ?_)
    obtain ⟨v1, v2, v3, rfl⟩ := qq
    have f4 := f3.tr v3.eY
    refine S_X11_qPartTold_244 ⟨?_, f4, rfl⟩
    rw [e2]
    have hoc := oc_ep U1
    have hap := oc_app U1 B
    have hap2 := oc_app (epU U1) B
    have hel := ep_len U1 C2
    refine ⟨m3.q (v3.mono (fun x y c => by unfold mE at c; unfold mQ; omega)), v1, by rw [v2, p3], by rw [mY56 f4]; exact h.2.2.2.1, t2, ?_, ?_, ?_, h.2.2.2.2.2.2.2.2.y f4⟩
    · simp only; omega
    · have : 0 ≤ epN U1 := by have := oc_0 (epU U1); have : ∀ L, 0 ≤ epN L := fun L => by
                                induction L with
                                | nil => simp [epN]
                                | cons v r ih => unfold epN; split <;> omega
                              exact this U1
      simp only; omega
    · simp only; omega
  refine S_X11_qPartTold_201 (by omega) (fun g => ?_) (fun g => ?_)
  rotate_left
  · have hw : wOf tk 0 11 (tw t n (.inl q1)) ≠ -1 := fun c => g (r1.trans c)
    have hw2 := wOf_wk hw
    have hne : tw t n (.inl q1) ≠ 0 := fun c => by rw [c] at hw2; exact absurd hw2.2.1 (by decide)
    have hW : isW t n q1 := tw_w rfl hne
    have lt := goT_lt hW
    refine S_X11_qPartTold_207 (d1 := 5) (by omega) (c_qAsksWord hs r2 (w1.rd r3) (by omega) (by omega)) (fun z3 I3 R3 qq => ?_)
    obtain ⟨x1, x2, rfl⟩ := qq
    refine S_X11_qPartTold_212 (by omega) (fun g2 => absurd g2 g) (fun _ => ?_)
    refine S_X11_qPartTold_218 ?_
    refine S_X11_qPartTold_237 (d1 := 1) (by omega) (c_qCode hs (k2.rd x2) (by omega)) (fun z4 I4 R4 qq => ?_)
    obtain ⟨v1, v2, rfl⟩ := qq
    have v2Q : FR mQ I3 I4 := v2.mono (fun x y c => by unfold mQ; omega)
    have f4 := ((f1.tr r3.rdY).tr x2.rdY).tr v2Q.qY
    refine ep (run isL t n (skp t n q1.1), true) ((40 + wOf tk 0 11 (tw t n (.inl q1))) :: C) I4 lt.1 rfl (MSt.q x1 v2Q) (by rw [← r1]; exact v1) ?_ f4 ?_
    · rw [v2 306 107 (fun c => by omega), rd107 x2, rd107 r3]; exact p1
    · unfold opY; rw [if_pos hw]
  · have hw : wOf tk 0 11 (tw t n (.inl q1)) = -1 := r1.symm.trans g
    refine S_X11_qPartTold_212 (by omega) (fun _ => ?_) (fun g2 => absurd g g2)
    refine S_X11_qPartTold_225 (d1 := 2) (by omega) (c_number hs r2 (by decide) (by decide)) (fun z3 I3 R3 qq => ?_)
    obtain ⟨n1, n2, n3, n4, rfl, n5⟩ := qq
    simp only at n1 n2
    refine S_X11_qPartTold_236 ?_
    refine S_X11_qPartTold_237 (d1 := 1) (by omega) (c_qCode hs (k2.rd n4) (by omega)) (fun z4 I4 R4 qq => ?_)
    obtain ⟨v1, v2, rfl⟩ := qq
    have v2Q : FR mQ I3 I4 := v2.mono (fun x y c => by unfold mQ; omega)
    have f4 := ((f1.tr r3.rdY).tr n4.rdY).tr v2Q.qY
    cases hn : numS t n 0 9999 (.inl q1) with
    | inl q2 =>
      have := n5 q1 q2 rfl hn
      have nl := num_lt hn
      rw [hn] at n3
      refine ep q2 ((1000 + valN t n q1) :: C) I4 nl.2.2.1 rfl (MSt.q n3 v2Q) (by rw [← this.1]; exact v1) ?_ f4 ?_
      · rw [v2 306 107 (fun c => by omega), rd107 n4, rd107 r3]; exact p1
      · unfold opY; rw [if_neg (fun c => c hw), hn]
    | inr f =>
      rw [hn] at n3
      have m4 := MSt.q n3 v2Q
      have e2 : partY t n tk k (q, U, C, o) = .inr f := by
        have eo : opY t n tk q1 C = .inr f := by unfold opY; rw [if_neg (fun c => c hw), hn]
        unfold partY; simp only [e, eo]
      refine S_X11_qPartTold_240 (d1 := 3) (by omega) (c_qEndsPart_bad m4.bad m4.r5) (fun z5 I5 R5 qq => ?_)
      obtain ⟨rfl, rfl⟩ := qq
      refine S_X11_qPartTold_244 ⟨?_, f4, rfl⟩
      rw [e2]
      refine ⟨m4, ⟨U1, _, v1, ?_⟩, by rw [mY56 f4]; exact h.2.2.2.1, h.2.2.2.2.2.2.2.2.y f4⟩
      simp only [List.length_cons]; omega
