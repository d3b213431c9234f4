/-! ===== a whole test ===== -/
theorem tall_loop {X : CX} {d : Nat} {R : PF} {Q : PV → PF → PF → Prop} (hs : Shp R) (hd : 3 ≤ d) : ∀ (U C : List Int) (I : PF), KSt I U [] C → I 306 5 = 0 → (∀ I', KSt I' [] [] (dwC (fun _ => true) U C) → FR mD I I' → PN X d mX11_qTest 131 [] [] I' R Q) → PN X d mX11_qTest 110 [(2, 306)] [] I R Q := by
  intro U
  induction U with
  | nil =>
    intro C I h h5 hQ
    have hw := h.w
    simp only [List.length_nil] at hw
    refine S_X11_qTest_110 (by rw [h5]; decide) (fun g => absurd h5 g) (fun _ => ?_)
    exact S_X11_qTest_117 (by omega) (fun g => hQ I h FR.rf) (fun g => by omega)
  | cons v U ih =>
    intro C I h h5 hQ
    have hw := h.w
    have hl2 := h.le
    simp only [List.length_cons, List.length_nil] at hw hl2
    refine S_X11_qTest_110 (by rw [h5]; decide) (fun g => absurd h5 g) (fun _ => ?_)
    refine S_X11_qTest_117 (by omega) (fun g => by omega) (fun g => ?_)
    refine S_X11_qTest_124 (d1 := 2) (by omega) (c_qDrops hs h) (fun z3 I3 R3 q => ?_)
    obtain ⟨q1, q2, rfl⟩ := q
    refine S_X11_qTest_128 (ih (v :: C) I3 q1 ?_ (fun I' k f => hQ I' k ((q2 : FR mD I I3).tr f)))
    rw [q2 306 5 (fun c => by omega)]; exact h5
theorem dw_all : ∀ L : List Int, dwU (fun _ => true) L = []
  | [] => rfl
  | v :: r => (if_pos rfl : dwU (fun _ => true) (v :: r) = dwU (fun _ => true) r).trans (dw_all r)
/-- a formula is read: its codes, newest first -/
def FRes (t : Int → Int) (n tk m : Int) (r : ((Int × Bool) × List Int) ⊕ (Int × Int)) (I : PF) : Prop := match r with
  | .inl y => MSt t n (.inl y.1) I ∧ KSt I [] [] y.2 ∧ I 306 56 = tk ∧ (y.2.length : Int) ≤ y.1.1 ∧ CW I
  | .inr f => YBd t n tk m [] f I
theorem c_qTest {X : CX} {I R : PF} {t : Int → Int} {n tk : Int} {q : Int × Bool} {K : Nat} (hs : Shp R) (hK : n < K) (h : YSt t n tk [] (q, [], [], 0) I) :
    CN X 9 mX11_qTest [(2, 306)] I R (fun _ I' R' => FRes t n tk 2 (testY t n tk K q) I' ∧ FR mY I I' ∧ R' = R) := by
  refine callee_b (by decide +kernel) (Nat.le_of_ble_eq_true rfl) rfl ?_
  have mle := h.1.le
  simp only at mle
  refine S_X11_qTest_0 (test_loop hs (by omega) hK K _ I (by simp only; omega) (fun v hv => absurd hv List.not_mem_nil) h (fun I1 y1 f1 => ?_))
  cases hT : testL t n tk K K (q, [], [], 0) with
  | inr f =>
    rw [hT] at y1
    have e : testY t n tk K q = .inr f := by unfold testY; simp only [hT]
    have y1' : YBd t n tk 2 [] f I1 := y1
    rw [e]
    refine S_X11_qTest_110 y1'.1.r5 (fun _ => ?_) (fun g => absurd g y1'.1.bad)
    exact S_X11_qTest_131 ⟨y1', f1, rfl⟩
  | inl r =>
    rw [hT] at y1
    obtain ⟨q2, V, C2, o2⟩ := r
    have e : testY t n tk K q = .inl (q2, dwC (fun _ => true) V C2) := by unfold testY; simp only [hT]
    rw [e]
    have y1' : YSt t n tk [] (q2, V, C2, o2) I1 := y1
    obtain ⟨b1, b2, b3, b4, b5, b6, b7, b8, b9⟩ := y1'
    simp only at b1 b2 b3 b6 b7 b8
    refine tall_loop hs (by omega) V C2 I1 b2 b1.ok (fun I3 k3 f4 => ?_)
    have f4q : FR mQ I1 I3 := f4.mono (fun x y c => by unfold mD at c; unfold mQ; omega)
    have hl := dw_len (fun _ => true) V C2
    rw [dw_all V] at hl
    refine S_X11_qTest_131 ⟨⟨b1.q f4q, k3, (mY56 f4q.qY).trans b4, ?_, b9.q f4q⟩, f1.tr f4q.qY, rfl⟩
    simp only [List.length_nil] at b8 hl ⊢; omega
noncomputable def sumZ (t : Int → Int) (n tk : Int) (K : Nat) (q : Int × Bool) : ((Int × Bool) × List Int) ⊕ (Int × Int) := match sumsY t n tk K (q, [], 0) with
  | .inr f => .inr f
  | .inl r => .inl (r.1, r.2.1)
theorem c_qSums0 {X : CX} {I R : PF} {t : Int → Int} {n tk : Int} {q : Int × Bool} {K : Nat} (hs : Shp R) (hK : n < K) (h : YSt t n tk [] (q, [], [], 0) I) :
    CN X 7 mX11_qSums [(2, 306)] I R (fun _ I' R' => FRes t n tk 2 (sumZ t n tk K q) I' ∧ FR mY I I' ∧ R' = R) := by
  refine (c_qSums (U := []) hs hK (fun v hv => absurd hv List.not_mem_nil) h).mono (fun v I' R' hp => ?_)
  obtain ⟨h1, h2, h3⟩ := hp
  refine ⟨?_, h2, h3⟩
  cases hS : sumsY t n tk K (q, [], 0) with
  | inr f =>
    rw [hS] at h1
    have e : sumZ t n tk K q = .inr f := by unfold sumZ; simp only [hS]
    rw [e]
    obtain ⟨b1, ⟨V, C', b2, b3⟩, b4, b5⟩ := h1
    exact ⟨b1, ⟨V, C', b2, by omega⟩, b4, b5⟩
  | inl r =>
    rw [hS] at h1
    have e : sumZ t n tk K q = .inl (r.1, r.2.1) := by unfold sumZ; simp only [hS]
    rw [e]
    obtain ⟨b1, b2, b3, b4, b5, b6, b7, b8, b9⟩ := h1
    simp only [List.length_nil] at b1 b2 b4 b8
    refine ⟨b1, b2, b4, ?_, b9⟩
    show (r.2.1.length : Int) ≤ r.1.1
    omega
