/-! ===== the model reads a sum, a fact ===== -/
theorem pre_le {t : Int → Int} {n tk : Int} : ∀ (k : Nat) (q : Int × Bool) (U : List Int) (o : Int) (p : (Int × Bool) × List Int × Int), preY t n tk k q U o = .inl p → q.1 ≤ p.1.1
  | 0, q, U, o, p, h => by cases h; exact Int.le_refl _
  | k + 1, q, U, o, p, h => by
    have s1 := skp_ge t n q.1
    have s2 := run_ge isL t n (skp t n q.1)
    have s3 := skp_ge t n (run isL t n (skp t n q.1))
    unfold preY at h
    by_cases g1 : nxt t n (.inl q) = 40
    · rw [if_pos g1] at h
      by_cases g2 : o = 6
      · rw [if_pos g2] at h; cases h
      · rw [if_neg g2] at h; have := pre_le k _ _ _ _ h; simp only at this; omega
    · rw [if_neg g1] at h
      by_cases g3 : tw t n (.inl q) = 191594322 ∨ tw t n (.inl q) = 187539624
      · rw [if_pos g3] at h
        by_cases g4 : nxt t n (.inl (run isL t n (skp t n q.1), true)) = 40
        · rw [if_pos g4] at h
          by_cases g2 : o = 6
          · rw [if_pos g2] at h; cases h
          · rw [if_neg g2] at h; have := pre_le k _ _ _ _ h; simp only at this; omega
        · rw [if_neg g4] at h; cases h
      · rw [if_neg g3] at h
        by_cases g5 : tk = 2 ∧ tw t n (.inl q) = 281319642
        · rw [if_pos g5] at h
          by_cases g2 : o = 6
          · rw [if_pos g2] at h; cases h
          · rw [if_neg g2] at h; have := pre_le k _ _ _ _ h; simp only at this; omega
        · rw [if_neg g5] at h; cases h; exact Int.le_refl _
theorem op_lt {t : Int → Int} {n tk : Int} {q : Int × Bool} {C : List Int} {r : (Int × Bool) × List Int} (h : opY t n tk q C = .inl r) : q.1 < r.1.1 := by
  unfold opY at h
  by_cases g : wOf tk 0 11 (tw t n (.inl q)) ≠ -1
  · rw [if_pos g] at h
    cases h
    have hw2 := wOf_wk g
    have hne : tw t n (.inl q) ≠ 0 := fun c => by rw [c] at hw2; exact absurd hw2.2.1 (by decide)
    exact (goT_lt (tw_w rfl hne)).1
  · rw [if_neg g] at h
    cases hn : numS t n 0 9999 (.inl q) with
    | inl q2 => rw [hn] at h; cases h; exact (num_lt hn).2.2.1
    | inr f => rw [hn] at h; cases h
theorem part_lt {t : Int → Int} {n tk : Int} {k : Nat} {y y' : Y4} (h : partY t n tk k y = .inl y') : y.1.1 < y'.1.1 := by
  unfold partY at h
  cases hp : preY t n tk k y.1 y.2.1 y.2.2.2 with
  | inr f => rw [hp] at h; cases h
  | inl p =>
    rw [hp] at h
    simp only at h
    have h1 := pre_le _ _ _ _ _ hp
    cases ho : opY t n tk p.1 y.2.2.1 with
    | inr f => rw [ho] at h; cases h
    | inl r =>
      rw [ho] at h
      simp only at h
      cases h
      have h2 := op_lt ho
      simp only
      omega
theorem cls_le {t : Int → Int} {n : Int} : ∀ (k : Nat) (y : Y4), y.1.1 ≤ (clsY t n k y).1.1
  | 0, y => Int.le_refl _
  | k + 1, y => by
    have s1 := skp_ge t n y.1.1
    unfold clsY
    split
    · have h := cls_le (t := t) (n := n) k ((skp t n y.1.1 + 1, false), epU (dtbU y.2.1).tail, epC (dtbU y.2.1).tail (if brk y.2.1 = 20 then dtbC y.2.1 y.2.2.1 else (if brk y.2.1 = 23 then 5 else 6) :: dtbC y.2.1 y.2.2.1), y.2.2.2 - 1 - epN (dtbU y.2.1).tail)
      simp only at h
      omega
    · exact Int.le_refl _
theorem goes_le {t : Int → Int} {n : Int} {k : Nat} {y : Y4} {b : Bool} {y' : Y4} (h : goesY t n k y = .inl (b, y')) : y.1.1 ≤ y'.1.1 := by
  have h1 := cls_le (t := t) (n := n) k y
  unfold goesY nxtY at h
  generalize clsY t n k y = z at *
  have s1 := skp_ge t n z.1.1
  repeat' split at h
  all_goals first | (cases h; simp only at *; omega) | (cases h; omega) | (cases h)
noncomputable def sumsL (t : Int → Int) (n tk : Int) (K : Nat) : Nat → Y4 → Y4 ⊕ (Int × Int)
  | 0, y => .inl y
  | k + 1, y => match partY t n tk K y with
    | .inr f => .inr f
    | .inl y1 => match goesY t n K y1 with
      | .inr f => .inr f
      | .inl r => if r.1 = true then sumsL t n tk K k r.2 else .inl r.2
abbrev Y3 : Type := (Int × Bool) × List Int × Int
noncomputable def sumsY (t : Int → Int) (n tk : Int) (K : Nat) (y : Y3) : Y3 ⊕ (Int × Int) := match sumsL t n tk K K (y.1, [], y.2.1, y.2.2) with
  | .inr f => .inr f
  | .inl r => .inl (r.1, dwC (fun _ => true) r.2.1 r.2.2.1, r.2.2.2)
theorem all_loop {X : CX} {d : Nat} {R : PF} {Q : PV → PF → PF → Prop} {B : List Int} {x1 : Int} (hs : Shp R) (hd : 3 ≤ d) : ∀ (U C : List Int) (I : PF), KSt I U B C → I 306 5 = 0 → (∀ I', KSt I' [] B (dwC (fun _ => true) U C) → FR mD I I' → PN X d mX11_qSums 78 [(2, 306), (0, x1)] [] I' R Q) → PN X d mX11_qSums 53 [(2, 306), (0, x1)] [] I R Q := by
  intro U
  induction U with
  | nil =>
    intro C I h h5 hQ
    have hw := h.w
    have hl2 := h.le
    have hb := h.2.2.1
    simp only [List.length_nil] at hw hl2
    refine S_X11_qSums_53 (by rw [h5]; decide) (fun g => absurd h5 g) (fun _ => ?_)
    exact S_X11_qSums_60 (by omega) (by omega) (fun g => hQ I h FR.rf) (fun g => by omega)
  | cons v U ih =>
    intro C I h h5 hQ
    have hw := h.w
    have hl2 := h.le
    have hb := h.2.2.1
    simp only [List.length_cons] at hw hl2
    refine S_X11_qSums_53 (by rw [h5]; decide) (fun g => absurd h5 g) (fun _ => ?_)
    refine S_X11_qSums_60 (by omega) (by omega) (fun g => by omega) (fun g => ?_)
    refine S_X11_qSums_71 (d1 := 2) (by omega) (c_qDrops hs h) (fun z3 I3 R3 q => ?_)
    obtain ⟨q1, q2, rfl⟩ := q
    refine S_X11_qSums_75 (ih (v :: C) I3 q1 ?_ (fun I' k f => hQ I' k ((q2 : FR mD I I3).tr f)))
    rw [q2 306 5 (fun c => by omega)]; exact h5
theorem sums_loop {X : CX} {d : Nat} {R : PF} {Q : PV → PF → PF → Prop} {t : Int → Int} {n tk x1 : Int} {B : List Int} {K : Nat} (hs : Shp R) (hd : 7 ≤ d) (hB : BOK B) (hK : n < K) : ∀ (k : Nat) (y : Y4) (I : PF), (n - y.1.1).toNat < k → YSt t n tk B y I →
    (∀ I', YRes t n tk 1 B (sumsL t n tk K k y) I' → FR mY I I' → PN X d mX11_qSums 53 [(2, 306), (0, x1)] [] I' R Q) → PN X d mX11_qSums 15 [(2, 306), (0, x1), (0, 1)] [] I R Q := by
  intro k
  induction k with
  | zero => intro y I h; exact absurd h (Nat.not_lt_zero _)
  | succ k ih =>
    intro y I hk h hQ
    have mle := h.1.le
    refine S_X11_qSums_15 (by decide) (fun g => absurd g (by decide)) (fun _ => ?_)
    refine S_X11_qSums_19 (by rw [h.1.ok]; decide) (fun g => absurd h.1.ok g) (fun _ => ?_)
    refine S_X11_qSums_26 (d1 := 6) (by omega) (c_qPartTold (k := K) hs (by omega) h) (fun z I2 R2 qq => ?_)
    obtain ⟨p1, f1, rfl⟩ := qq
    cases hp : partY t n tk K y with
    | inr f =>
      rw [hp] at p1
      have e : sumsL t n tk K (k + 1) y = .inr f := by show (match partY t n tk K y with | .inr f => _ | .inl y1 => _) = _; rw [hp]
      rw [e] at hQ
      have p1' : YBd t n tk 1 B f I2 := p1
      refine S_X11_qSums_30 p1'.1.r5 (fun _ => ?_) (fun g => absurd g p1'.1.bad)
      refine S_X11_qSums_48 (S_X11_qSums_49 (S_X11_qSums_15 (by decide) (fun _ => ?_) (fun g => absurd rfl g)))
      exact hQ I2 p1 f1
    | inl y1 =>
      rw [hp] at p1
      have p1' : YSt t n tk B y1 I2 := p1
      have lt1 := part_lt hp
      have mle1 := p1'.1.le
      refine S_X11_qSums_30 (by rw [p1'.1.ok]; decide) (fun g => absurd p1'.1.ok g) (fun _ => ?_)
      refine S_X11_qSums_37 (d1 := 4) (by omega) (c_qGoesOn (k := K) hs (by omega) hB p1') (fun z3 I3 R3 qq => ?_)
      obtain ⟨g1, f2, rfl⟩ := qq
      cases hg : goesY t n K y1 with
      | inr f =>
        rw [hg] at g1
        obtain ⟨(hz : z3 = 0), g2⟩ := g1
        have e : sumsL t n tk K (k + 1) y = .inr f := by show (match partY t n tk K y with | .inr f => _ | .inl y1 => _) = _; rw [hp]; simp only [hg]
        rw [e] at hQ
        refine S_X11_qSums_41 (by omega) (fun _ => ?_) (fun g => absurd hz g)
        refine S_X11_qSums_48 (S_X11_qSums_49 (S_X11_qSums_15 (by decide) (fun _ => ?_) (fun g => absurd rfl g)))
        obtain ⟨b1, ⟨U', C', b2, b3⟩, b4, b5⟩ := g2
        exact hQ I3 ⟨b1, ⟨U', C', b2, by omega⟩, b4, b5⟩ (f1.tr f2)
      | inl r =>
        rw [hg] at g1
        obtain ⟨(hz : z3 = _), g2⟩ := g1
        obtain ⟨b, y2⟩ := r
        have le2 := goes_le hg
        cases b with
        | true =>
          have e : sumsL t n tk K (k + 1) y = sumsL t n tk K k y2 := by show (match partY t n tk K y with | .inr f => _ | .inl y1 => _) = _; rw [hp]; simp only [hg, if_true]
          rw [e] at hQ
          have hz1 : z3 = 1 := hz
          refine S_X11_qSums_41 (by omega) (fun g => absurd (hz1.symm.trans g) (by decide)) (fun _ => ?_)
          refine S_X11_qSums_44 (S_X11_qSums_49 ?_)
          exact ih y2 I3 (by omega) g2 (fun I' yy ff => hQ I' yy ((f1.tr f2).tr ff))
        | false =>
          have e : sumsL t n tk K (k + 1) y = .inl y2 := by show (match partY t n tk K y with | .inr f => _ | .inl y1 => _) = _; rw [hp]; simp only [hg]; rfl
          rw [e] at hQ
          have hz1 : z3 = 0 := hz
          refine S_X11_qSums_41 (by omega) (fun _ => ?_) (fun g => absurd hz1 g)
          refine S_X11_qSums_48 (S_X11_qSums_49 (S_X11_qSums_15 (by decide) (fun _ => ?_) (fun g => absurd rfl g)))
          exact hQ I3 g2 (f1.tr f2)
def YRes3 (t : Int → Int) (n tk m : Int) (U B : List Int) (r : Y3 ⊕ (Int × Int)) (I : PF) : Prop := match r with
  | .inl y => YSt t n tk B (y.1, U, y.2.1, y.2.2) I
  | .inr f => YBd t n tk m B f I
theorem KSt.base {I : PF} {U V B C : List Int} (h : KSt I V (U ++ B) C) : KSt (u2 I 306 108 B.length) (V ++ U) B C := by
  obtain ⟨h1, h2, h3, h4, h5⟩ := h
  have f : FR (fun x y => x = 306 ∧ y = 108) I (u2 I 306 108 B.length) := FR_u2 ⟨rfl, rfl⟩
  rw [← List.append_assoc] at h1 h4 h5
  refine ⟨?_, ?_, u2_at, h4, h5⟩
  · rw [f 306 106 (fun c => by omega)]; exact h1.fr (fun i _ _ => f 380 i (fun c => by omega))
  · rw [f 306 104 (fun c => by omega)]; exact h2.fr (fun i _ _ => f 379 i (fun c => by omega))
theorem c_qSums {X : CX} {I R : PF} {t : Int → Int} {n tk : Int} {U B C : List Int} {q : Int × Bool} {o : Int} {K : Nat} (hs : Shp R) (hK : n < K) (hB : BOK (U ++ B)) (h : YSt t n tk B (q, U, C, o) I) :
    CN X 7 mX11_qSums [(2, 306)] I R (fun _ I' R' => YRes3 t n tk 1 U B (sumsY t n tk K (q, C, o)) I' ∧ FR mY I I' ∧ R' = R) := by
  refine callee_b (by decide +kernel) (Nat.le_of_ble_eq_true rfl) rfl ?_
  have h' := h
  obtain ⟨m1, k1, o1, t1, t2, c1, c2, l1, w1⟩ := h'
  simp only at m1 k1 o1 c1 c2 l1
  have mle := m1.le
  have hw := k1.w
  have hb : I 306 108 = B.length := k1.2.2.1
  refine S_X11_qSums_0 ?_
  rw [hb]
  have f1 : FR (fun x y => x = 306 ∧ y = 108) I (u2 I 306 108 (I 306 106)) := FR_u2 ⟨rfl, rfl⟩
  have f1q : FR mQ I (u2 I 306 108 (I 306 106)) := f1.mono (fun x y c => by unfold mQ; omega)
  have y0 : YSt t n tk (U ++ B) (q, [], C, o) (u2 I 306 108 (I 306 106)) := by
    refine ⟨m1.q f1q, ⟨?_, ?_, ?_, ?_, ?_⟩, ?_, ?_, t2, c1, c2, ?_, w1.q f1q⟩
    · rw [f1 306 106 (fun c => by omega)]; exact k1.1.fr (fun i _ _ => f1 380 i (fun c => by omega))
    · rw [f1 306 104 (fun c => by omega)]; exact k1.2.1.fr (fun i _ _ => f1 379 i (fun c => by omega))
    · rw [u2_at, hw, List.length_append]; omega
    · exact k1.2.2.2.1
    · exact k1.2.2.2.2
    · rw [f1 306 107 (fun c => by omega)]; exact o1
    · rw [f1 306 56 (fun c => by omega)]; exact t1
    · simp only [List.length_nil, List.length_append]; omega
  refine sums_loop hs (by omega) hB hK K _ _ (by simp only; omega) y0 (fun I2 y2 f2 => ?_)
  have f3 := f1q.qY.tr f2
  have fb : ∀ J : PF, FR mY J (u2 J 306 108 B.length) := fun J => FR_u2 (Or.inr (Or.inl ⟨rfl, by decide⟩))
  cases hS : sumsL t n tk K K (q, [], C, o) with
  | inr f =>
    rw [hS] at y2
    have y2' : YBd t n tk 1 (U ++ B) f I2 := y2
    have e : sumsY t n tk K (q, C, o) = .inr f := by unfold sumsY; simp only [hS]
    rw [e]
    obtain ⟨b1, ⟨V, C', b2, b3⟩, b4, b5⟩ := y2'
    refine S_X11_qSums_53 b1.r5 (fun _ => ?_) (fun g => absurd g b1.bad)
    refine S_X11_qSums_78 ⟨⟨b1.q (FR_u2 (Or.inl ⟨rfl, by decide⟩)), ⟨_, _, b2.base, ?_⟩, ?_, b5.q (FR_u2 (Or.inl ⟨rfl, by decide⟩))⟩, f3.tr (fb I2), rfl⟩
    · simp only [List.length_append] at b3 ⊢; omega
    · rw [mY56 (fb I2)]; exact b4
  | inl r =>
    rw [hS] at y2
    have y2' : YSt t n tk (U ++ B) r I2 := y2
    obtain ⟨q2, V, C2, o2⟩ := r
    have e : sumsY t n tk K (q, C, o) = .inl (q2, dwC (fun _ => true) V C2, o2) := by unfold sumsY; simp only [hS]
    rw [e]
    obtain ⟨b1, b2, b3, b4, b5, b6, b7, b8, b9⟩ := y2'
    simp only at b1 b2 b3 b6 b7 b8
    refine all_loop hs (by omega) V C2 I2 b2 b1.ok (fun I3 k3 f4 => ?_)
    have f4q : FR mQ I2 I3 := f4.mono (fun x y c => by unfold mD at c; unfold mQ; omega)
    have f5 := (f3.tr f4q.qY).tr (fb I3)
    have g5 : FR mQ I3 (u2 I3 306 108 B.length) := FR_u2 (Or.inl ⟨rfl, by decide⟩)
    have hl := dw_len (fun _ => true) V C2
    have e0 : ∀ L : List Int, dwU (fun _ => true) L = [] := fun L => by
      induction L with
      | nil => rfl
      | cons v r ih => exact (if_pos rfl : dwU (fun _ => true) (v :: r) = dwU (fun _ => true) r).trans ih
    rw [e0 V] at hl
    have ho := oc_app V (U ++ B)
    have ho2 := oc_0 V
    have k4 := k3.base
    rw [List.nil_append] at k4
    refine S_X11_qSums_78 ⟨⟨(b1.q f4q).q g5, k4, ?_, (mY56 f5).trans t1, t2, ?_, b7, ?_, w1.y f5⟩, f5, rfl⟩
    · rw [u2_j (show (107 : Int) ≠ 108 by decide), f4 306 107 (fun c => by unfold mD at c; omega)]; exact b3
    · simp only; omega
    · simp only [List.length_append, List.length_nil] at b8 hl ⊢; omega
