/-! ===== ask: the class ===== -/
theorem quR_in {t : Int → Int} {n : Int} {K : Nat} {y : Int × List Int} (h : quR t n K = .inl y) : (0 ≤ y.1 ∧ y.1 < 6) ∧ (y.1 < 3 → PW1 2 b01 64 y.2.reverse) ∧ (3 ≤ y.1 → PW1 2 bd 64 y.2.reverse) := by
  have kr := kQ_r t n
  by_cases c : kQ t n = 6
  · unfold quR at h; rw [if_pos c] at h; cases h
  rw [quR_q c] at h
  by_cases c3 : kQ t n < 3
  · rw [if_pos c3] at h
    cases hr : tstF t n 2 K (q1Q t n) with
    | inr f => rw [hr] at h; cases h
    | inl r =>
      rw [hr] at h
      unfold quF at h
      by_cases c4 : nxt t n (.inl r.1) = -1
      · simp only at h
        rw [if_pos c4] at h
        have e := Sum.inl.inj h
        rw [← e]
        exact ⟨⟨kr.1, by show kQ t n < 6; omega⟩, fun _ => tstF_w hr, fun k => by have : 3 ≤ kQ t n := k; omega⟩
      · simp only at h
        rw [if_neg c4] at h; cases h
  · rw [if_neg c3] at h
    cases hr : sumF t n 2 K (q1Q t n) with
    | inr f => rw [hr] at h; cases h
    | inl r =>
      rw [hr] at h
      unfold quF at h
      by_cases c4 : nxt t n (.inl r.1) = -1
      · simp only at h
        rw [if_pos c4] at h
        have e := Sum.inl.inj h
        rw [← e]
        exact ⟨⟨kr.1, by show kQ t n < 6; omega⟩, fun k => by have : kQ t n < 3 := k; omega, fun _ => sumF_w hr⟩
      · simp only at h
        rw [if_neg c4] at h; cases h
/-! faults' codes -/
def FS (p : (Int × Bool) → List Int → RD) : Prop := ∀ q C f, p q C = .inr f → 0 ≤ f.1 ∧ f.1 ≤ 9
theorem loopR_f {t : Int → Int} {n c1 o1 c2 o2 : Int} {p : (Int × Bool) → List Int → RD} (hp : FS p) : ∀ (k : Nat) (q : Int × Bool) (C : List Int) (f : Int × Int), loopR t n p c1 o1 c2 o2 k q C = .inr f → 0 ≤ f.1 ∧ f.1 ≤ 9
  | 0, q, C, f, h => by cases h
  | k + 1, q, C, f, h => by
    unfold loopR at h
    by_cases g : nxt t n (.inl q) = c1 ∨ nxt t n (.inl q) = c2
    · rw [if_pos g] at h
      cases hx : p (skp t n q.1 + 1, false) C with
      | inr f' => rw [hx] at h; cases h; exact hp _ _ _ hx
      | inl r => rw [hx] at h; exact loopR_f hp k _ _ f h
    · rw [if_neg g] at h; cases h
theorem loopW_f {t : Int → Int} {n c w : Int} {p : (Int × Bool) → List Int → RD} (hp : FS p) : ∀ (k : Nat) (q : Int × Bool) (C : List Int) (f : Int × Int), loopW t n p c w k q C = .inr f → 0 ≤ f.1 ∧ f.1 ≤ 9
  | 0, q, C, f, h => by cases h
  | k + 1, q, C, f, h => by
    unfold loopW at h
    by_cases g : tw t n (.inl q) = c
    · rw [if_pos g] at h
      cases hx : p (run isL t n (skp t n q.1), true) C with
      | inr f' => rw [hx] at h; cases h; exact hp _ _ _ hx
      | inl r => rw [hx] at h; exact loopW_f hp k _ _ f h
    · rw [if_neg g] at h; cases h
theorem prodR_f {t : Int → Int} {n : Int} {K : Nat} {p : (Int × Bool) → List Int → RD} (hp : FS p) : FS (prodR t n K p) := fun q C f h => by
  unfold prodR at h
  cases hx : p q C with
  | inr f' => rw [hx] at h; cases h; exact hp _ _ _ hx
  | inl r => rw [hx] at h; exact loopR_f hp K _ _ f h
theorem sumR_f {t : Int → Int} {n : Int} {K : Nat} {p : (Int × Bool) → List Int → RD} (hp : FS p) : FS (sumR t n K p) := fun q C f h => by
  unfold sumR at h
  cases hx : prodR t n K p q C with
  | inr f' => rw [hx] at h; cases h; exact prodR_f hp _ _ _ hx
  | inl r => rw [hx] at h; exact loopR_f (prodR_f hp) K _ _ f h
theorem bothR_f {t : Int → Int} {n : Int} {K : Nat} {p : (Int × Bool) → List Int → RD} (hp : FS p) : FS (bothR t n K p) := fun q C f h => by
  unfold bothR at h
  cases hx : p q C with
  | inr f' => rw [hx] at h; cases h; exact hp _ _ _ hx
  | inl r => rw [hx] at h; exact loopW_f hp K _ _ f h
theorem tstR_f {t : Int → Int} {n : Int} {K : Nat} {p : (Int × Bool) → List Int → RD} (hp : FS p) : FS (tstR t n K p) := fun q C f h => by
  unfold tstR at h
  cases hx : bothR t n K p q C with
  | inr f' => rw [hx] at h; cases h; exact bothR_f hp _ _ _ hx
  | inl r => rw [hx] at h; exact loopW_f (bothR_f hp) K _ _ f h
theorem opY_f {t : Int → Int} {n tk : Int} : FS (opY t n tk) := fun q C f h => by
  unfold opY numS at h
  by_cases g : wOf tk 0 11 (tw t n (.inl q)) ≠ -1
  · rw [if_pos g] at h; cases h
  · rw [if_neg g] at h
    simp only at h
    by_cases c1 : ¬ isNb t n q
    · rw [if_pos c1] at h; cases h; dsimp only; omega
    · rw [if_neg c1] at h
      by_cases c2 : 4 < lenN t n q
      · rw [if_pos c2] at h; cases h; dsimp only; omega
      · rw [if_neg c2] at h
        by_cases c3 : valN t n q < 0 ∨ 9999 < valN t n q
        · rw [if_pos c3] at h; cases h; dsimp only; omega
        · rw [if_neg c3] at h; cases h
theorem partB_f {t : Int → Int} {n tk : Int} {ok : Bool} {S P : (Int × Bool) → List Int → RD} (hS : FS S) (hP : FS P) : FS (partB t n tk ok S P) := fun q C f h => by
  unfold partB at h
  repeat' split at h
  all_goals first
    | exact opY_f _ _ _ h
    | (cases h; first | exact hS _ _ _ (by assumption) | exact hP _ _ _ (by assumption) | (dsimp only; omega))
    | cases h
theorem FS_0 : FS (fun _ _ => .inr (0, 0)) := fun q C f h => by cases h; dsimp only; omega
theorem partR_f {t : Int → Int} {n tk : Int} {K : Nat} : ∀ b : Nat, FS (partR t n tk K b)
  | 0 => partB_f FS_0 FS_0
  | b + 1 => partB_f (sumR_f (partR_f b)) (partR_f b)
theorem factB_f {t : Int → Int} {n : Int} {ok : Bool} {S T F : (Int × Bool) → List Int → RD} (hS : FS S) (hT : FS T) (hF : FS F) : FS (factB t n ok S T F) := fun q C f h => by
  unfold factB at h
  repeat' split at h
  all_goals first
    | (cases h; first | exact hS _ _ _ (by assumption) | exact hT _ _ _ (by assumption) | exact hF _ _ _ (by assumption) | (dsimp only; omega))
    | cases h
theorem factR_f {t : Int → Int} {n tk : Int} {K : Nat} : ∀ b : Nat, FS (factR t n tk K b)
  | 0 => factB_f (sumR_f (partR_f 0)) FS_0 FS_0
  | b + 1 => factB_f (sumR_f (partR_f (b + 1))) (tstR_f (factR_f b)) (factR_f b)
theorem quR_f {t : Int → Int} {n : Int} {K : Nat} {f : Int × Int} (h : quR t n K = .inr f) : 0 ≤ f.1 ∧ f.1 ≤ 9 := by
  by_cases c : kQ t n = 6
  · unfold quR at h; rw [if_pos c] at h; cases h; dsimp only; omega
  rw [quR_q c] at h
  have hF : ∀ f', (if kQ t n < 3 then tstF t n 2 K (q1Q t n) else sumF t n 2 K (q1Q t n)) = .inr f' → 0 ≤ f'.1 ∧ f'.1 ≤ 9 := fun f' e => by
    by_cases c3 : kQ t n < 3
    · rw [if_pos c3] at e; exact tstR_f (factR_f 6) _ _ _ e
    · rw [if_neg c3] at e; exact sumR_f (partR_f 6) _ _ _ e
  generalize (if kQ t n < 3 then tstF t n 2 K (q1Q t n) else sumF t n 2 K (q1Q t n)) = r at h hF
  cases r with
  | inr f' => cases h; exact hF _ rfl
  | inl r =>
    unfold quF at h
    by_cases c4 : nxt t n (.inl r.1) = -1
    · simp only at h; rw [if_pos c4] at h; cases h
    · simp only at h; rw [if_neg c4] at h; cases h; dsimp only; omega
theorem c_readyK {X : CX} {I R D K : PF} {p o noon : Int} (hs : Shp R) (hp : Plc R p o) (hG : GD D) (hJ : JQ D K p I) : CN X 2 mX1_prepare [(2, 127), (2, p), (2, 111), (0, noon), (2, 0)] I R (fun _ I' R' => ClF D K noon p 111 I' ∧ WhF D K noon I' ∧ FR mPr I I' ∧ Shp R' ∧ R' 127 0 = p ∧ R' 127 1 = 111 ∧ R' 127 2 = 0 ∧ FR scR R R' ∧ Plc R' p o) := by
  have kp := (plc_k hp).1
  obtain ⟨hQ, hL, hS, h5⟩ := hJ
  refine Callee.mono (c_prepare hs) (fun v I' R' q => ?_)
  obtain ⟨q1, q2, q3, q4, q5, rfl⟩ := q
  obtain ⟨r0, r1, r2⟩ := pR_v R p 111 0
  have hd := hG.1
  refine ⟨prep_F kp (Or.inl rfl) hG hQ hL hS h5 q1 q2 q3 q5, fun x y hq => Or.inl (q4 _ ?_ ?_), q5, pR_s hs p 111 0, r0, r1, r2, pR_scR _ _ _ _, hp.sc (pR_scR _ _ _ _)⟩
  · obtain ⟨c1, c2, c3, c4⟩ := hq
    simp only at c1 c2 c3 c4
    omega
  · obtain ⟨c1, c2, c3, c4⟩ := hq
    simp only at c1 c2 c3 c4
    omega
/-- what both tell behind a question -/
noncomputable def AnQ (D I : PF) (r : (Int × List Int) ⊕ (Int × Int)) (v a b : Int) : Prop := match r with
  | .inl y => v = anV y.1 (vlQ D I (I 348 0) y.2.reverse) (D 339 1).toNat ∧ a = 0 ∧ b = -1
  | .inr f => v = -1000000000000000 ∧ a = f.1 ∧ b = f.2
def kF (p o x y : Int) : Prop := scC p o x y ∨ (x = 64 ∧ (y = 1 ∨ y = 3 ∨ y = 4))
theorem rQ_kF {p o : Int} {I J : PF} (f : FR rQ I J) : FR (kF p o) I J := f.mono (fun x y c => Or.inl (by unfold rQ at c; unfold scC; omega))
theorem c_xask {X : CX} {I R D : PF} {p o n : Int} {K : Nat} (h : Sim I R) (hp : Plc R p o) (hT : Tld D p I) (hn : I 64 1 = n) (hK : n < K) :
    CN X 37 mX10_ask [(2, 64)] I R (fun v I' R' => AnQ D I (quR (I 65) n K) v.2 (I' 64 3) (I' 64 4) ∧ I' 64 1 = 0 ∧ bd (I' 131 5) ∧ FR (kF p o) I I' ∧ FR scR R R') := by
  have hs := h.1
  have sm := h.2.2.2.1
  have tp := h.2.2.1
  obtain ⟨tp1, tp2, tp3, tp4, tp5⟩ := tp
  have p0 := hT.p0
  have kp := (plc_k hp).1
  have hpp := sq_o kp
  obtain ⟨hG, hW, hQ, hL, hST, hKG, hS, -⟩ := id hT
  have hD := hG.2.1
  have k1 := hKG.1
  refine callee_b (by decide +kernel) (Nat.le_of_ble_eq_true rfl) rfl ?_
  refine S_X10_ask_0 (d1 := 0) (by omega) c_takeTape (fun z A R1 r => ?_)
  obtain ⟨(hz : z = _), eA, rfl⟩ := r
  rw [hn] at hz
  rw [hz]
  have fA : FR (fun x y => x = 64 ∧ y = 1) I A := by rw [eA]; exact FR_u2 ⟨rfl, rfl⟩
  have a64 : A 64 1 = 0 := by rw [eA]; exact u2_at
  have nA : ∀ x y, x ≠ 64 → A x y = I x y := fun x y c => fA x y (fun d => c d.1)
  refine S_X10_ask_4 (d1 := 0) (by omega) (c_isToldX hp (by rw [nA _ _ (by omega)]; unfold inR; omega)) (fun z2 I2 R2 r => ?_)
  obtain ⟨(hz2 : z2 = _), rfl, rfl⟩ := r
  rw [nA p 0 (by omega), bi_t p0.1] at hz2
  refine S_X10_ask_9 (by omega) (fun _ => ?_) (fun g => by omega)
  have e65 : I2 65 = I 65 := funext fun y => nA _ _ (by decide)
  refine S_X10_ask_16 (d1 := 36) hs (by omega) (c_readQuestion (t := I 65) (n := n) (K := K) hs e65 (by omega) (by rw [tp1]; exact tp5) hK) (fun z3 I3 R3 r => ?_)
  obtain ⟨-, hC, f3, g3⟩ := r
  have hs3 := hs.fr (dR_mR g3)
  have gs3 : FR scR R2 R3 := g3.mono (fun x y c => by unfold dR at c; unfold scR; omega)
  have hp3 : Plc R3 p o := hp.sc gs3
  have n3 : ∀ x y, ¬ rQ x y → I3 x y = I2 x y := f3
  refine S_X10_ask_28 (d1 := 0) (by omega) (c_keepFault hs3) (fun z4 J R4 r => ?_)
  obtain ⟨eJ, rfl⟩ := r
  have fJ : FR (fun x y => x = 64 ∧ (y = 3 ∨ y = 4)) I3 J := by rw [eJ]; exact (FR_u2 ⟨rfl, Or.inl rfl⟩).tr (FR_u2 ⟨rfl, Or.inr rfl⟩)
  have j3 : J 64 3 = I3 67 8 := by rw [eJ, u2_j (by decide), u2_at]
  have j4 : J 64 4 = I3 67 9 := by rw [eJ, u2_at]
  have j1 : J 64 1 = 0 := by rw [fJ _ _ (by decide), n3 _ _ (fun c => by unfold rQ at c; omega)]; exact a64
  have FJ : FR (kF p o) I J := ((fA.mono (fun x y c => Or.inr ⟨c.1, Or.inl c.2⟩)).tr (rQ_kF f3)).tr (fJ.mono (fun x y c => Or.inr ⟨c.1, Or.inr c.2⟩))
  have nJ : ∀ x y, x ≠ 64 → ¬ rQ x y → J x y = I x y := fun x y c c2 => ((fJ x y (fun d => c d.1)).trans (n3 x y c2)).trans (nA x y c)
  have b5 : bd (J 131 5) := by rw [nJ _ _ (by decide) (fun c => by unfold rQ at c; omega)]; exact sm.2.2.2.2.2.1
  generalize hr : quR (I 65) n K = r at hC
  cases r with
  | inr f =>
    obtain ⟨c1, c2, c3⟩ := hC
    have f5 := quR_f hr
    refine S_X10_ask_33 (by rw [j3, c1]; omega) (fun g => absurd (c1.symm.trans (j3.symm.trans g)) c2) (fun g => S_X10_ask_40 ⟨⟨rfl, j3.trans c1, j4.trans c3⟩, j1, b5, FJ, gs3⟩)
  | inl y =>
    obtain ⟨(c0 : z3 = 32 + y.1), c1, c2, c3, c4⟩ := hC
    obtain ⟨y6, yt, ys⟩ := quR_in hr
    have j3' : J 64 3 = 0 := j3.trans c1
    have j4' : J 64 4 = -1 := j4.trans c2
    obtain ⟨cl, cd⟩ := Stk.dcs c3
    have wl : (y.2.reverse.length : Int) = y.2.length := by rw [List.length_reverse]
    have J68 : J 68 2 = y.2.reverse.length := by rw [fJ _ _ (by decide), cl, wl]
    have J69 : J 69 = I3 69 := funext fun y => fJ _ _ (by omega)
    have JCA : CA (J 69) 0 y.2.reverse := fun j hj => by
      rw [J69, Int.zero_add]
      have := cd j (by omega) (by omega)
      simpa using this
    have hw : PW1 2 bd 64 y.2.reverse := by
      by_cases c : y.1 < 3
      · intro e s st h1 h2 h3
        obtain ⟨a, v, b, d⟩ := yt c e s st h1 h2 h3
        exact ⟨a, v, b, b01_bd d⟩
      · exact ys (by omega)
    have JJ : JQ D I p J := ⟨hQ.f2 (fun x a b _ _ => funext fun y => nJ _ _ (by omega) (fun c => by unfold rQ at c; omega)) hG, fun k k0 k1 => by rw [nJ _ _ (by omega) (fun c => by unfold rQ at c; omega)]; exact hL k k0 k1, hS.fr ⟨by omega, by omega⟩ (fun x y c => nJ x y (by unfold stC at c; omega) (fun d => by unfold stC at c; unfold rQ at d; omega)), b5⟩
    have J111 : J 111 0 = I 348 0 := JJ.2.2.1.1.1
    rw [c0]
    refine S_X10_ask_33 (by rw [j3']; decide) (fun _ => ?_) (fun g => absurd j3' g)
    refine S_X10_ask_44 (d1 := 2) hs3 hp3.1 (by omega) (by rw [J111]; exact c_readyK hs3 hp3 hG JJ) (fun z5 I5 R5 r => ?_)
    obtain ⟨hF, hN, f5, hs5, r0, r1, r2, fR5, hp5⟩ := r
    have hbn : bd (I 348 0) := by unfold bd; omega
    have n5 : ∀ x y, (x = 68 ∨ x = 69 ∨ x = 64) → I5 x y = J x y := fun x y c => f5 x y (fun d => by unfold mPr at d; omega)
    have F5 : FR (kF p o) I I5 := FJ.tr ((mPr_Qy (p := p) f5).mono (fun x y c => Or.inl (mQy_scC c)))
    have e69 : I5 69 = J 69 := funext fun y => n5 _ _ (Or.inr (Or.inl rfl))
    have run := (hw (fun _ => 0) 0 [] (fun k => by unfold bd; decide) (fun v h => absurd h List.not_mem_nil) (Nat.le_refl _)).1
    refine S_X10_ask_67 (d1 := 0) hs5 (by omega) (c_reads hs5 ((n5 _ _ (Or.inl rfl)).trans J68) (by omega) (by rw [e69]; exact JCA) (run_c _ _ run)) (fun z6 I6 R6 r => ?_)
    obtain ⟨z01, z50, rfl, rfl⟩ := r
    have g86 : ∀ (B : PF), VQ D I (I 348 0) y.2.reverse B → FR (kF p o) I B → B 64 1 = 0 → B 64 3 = 0 → B 64 4 = -1 → PN X 37 mX10_ask 86 [(2, 64), (9, 0), (2, 32 + y.1)] [] B R6 (fun v I' R' => AnQ D I (.inl y) v.2 (I' 64 3) (I' 64 4) ∧ I' 64 1 = 0 ∧ bd (I' 131 5) ∧ FR (kF p o) I I' ∧ FR scR R2 R') := fun B hV fB b1 b3 b4 => by
      have vk : ∀ {I' : PF}, FR vF B I' → I' 64 1 = B 64 1 ∧ I' 64 3 = B 64 3 ∧ I' 64 4 = B 64 4 ∧ FR (kF p o) I I' := fun {I'} g => ⟨g _ _ (fun c => by unfold vF at c; omega), g _ _ (fun c => by unfold vF at c; omega), g _ _ (fun c => by unfold vF at c; omega), fB.tr (g.mono (fun x y c => Or.inl (by unfold vF at c; unfold scC; omega)))⟩
      have tst : y.1 < 3 → PN X 37 mX10_ask 107 [(2, 64), (9, 0), (2, 32 + y.1)] [] B R6 (fun v I' R' => AnQ D I (.inl y) v.2 (I' 64 3) (I' 64 4) ∧ I' 64 1 = 0 ∧ bd (I' 131 5) ∧ FR (kF p o) I I' ∧ FR scR R2 R') := fun c => by
        refine S_X10_ask_107 (d1 := 4) (by omega) (c_answerTest hs5 r1 hG hKG hbn hV (by omega) (yt c) ⟨y6.1, c⟩) (fun z7 I7 R7 r => ?_)
        obtain ⟨(hz7 : z7 = _), hV7, f7, rfl⟩ := r
        obtain ⟨v1, v3, v4, v5⟩ := vk f7
        exact S_X10_ask_112 ⟨⟨hz7, v3.trans b3, v4.trans b4⟩, v1.trans b1, hV7.2.2.2.2.2, v5, gs3.tr fR5⟩
      refine S_X10_ask_86 (by omega) (fun g => tst (by omega)) (fun g => S_X10_ask_93 (by omega) (fun g2 => tst (by omega)) (fun g2 => S_X10_ask_100 (by omega) (fun g3 => ?_) (fun g3 => tst (by omega))))
      refine S_X10_ask_113 (d1 := 4) (by omega) (c_answerSum hs5 r1 hG hKG hbn hV (by omega) (ys (by omega)) ⟨by omega, y6.2⟩) (fun z7 I7 R7 r => ?_)
      obtain ⟨(hz7 : z7 = _), hV7, f7, rfl⟩ := r
      obtain ⟨v1, v3, v4, v5⟩ := vk f7
      exact S_X10_ask_118 ⟨⟨hz7, v3.trans b3, v4.trans b4⟩, v1.trans b1, hV7.2.2.2.2.2, v5, gs3.tr fR5⟩
    have q1 : I6 64 1 = 0 := (n5 _ _ (Or.inr (Or.inr rfl))).trans j1
    have q3 : I6 64 3 = 0 := (n5 _ _ (Or.inr (Or.inr rfl))).trans j3'
    have q4 : I6 64 4 = -1 := (n5 _ _ (Or.inr (Or.inr rfl))).trans j4'
    have q68 : I6 68 2 = y.2.reverse.length := (n5 _ _ (Or.inl rfl)).trans J68
    refine S_X10_ask_76 (by omega) (fun g => g86 I6 ⟨hF.2.2.1, hF.2.2.2.1.1, fun k => absurd k (z50 g), q68, by rw [e69]; exact JCA, hF.2.2.2.1.2⟩ F5 q1 q3 q4) (fun g => ?_)
    refine S_X10_ask_79 (d1 := 7) hs5 (by omega) (c_tally (K := I) (noon := I 348 0) hs5 r0 kp r1 r2 hG hW hKG hbn hF hN) (fun z7 I7 R7 r => ?_)
    obtain ⟨t1, t2, t3, rfl⟩ := r
    have n7 : ∀ x y, (x = 68 ∨ x = 69 ∨ x = 64) → I7 x y = I6 x y := fun x y c => t3 x y (fun d => by
      rcases d with d | d
      · unfold mGt mFy mSt1 mWd mCa at d; omega
      · omega)
    refine g86 I7 ⟨t2.2.2.1, t2.2.2.2.1.1, fun _ => t1, (n7 _ _ (Or.inl rfl)).trans q68, by rw [show I7 69 = I6 69 from funext fun y => n7 _ _ (Or.inr (Or.inl rfl)), e69]; exact JCA, t2.2.2.2.1.2⟩ (F5.tr (t3.mono (fun x y c => ?_))) ((n7 _ _ (Or.inr (Or.inr rfl))).trans q1) ((n7 _ _ (Or.inr (Or.inr rfl))).trans q3) ((n7 _ _ (Or.inr (Or.inr rfl))).trans q4)
    rcases c with c | c
    · refine Or.inl (mQy_scC ?_)
      rcases c with c | c
      · exact Or.inl c
      · exact Or.inr (Or.inr (Or.inr (Or.inr c)))
    · exact Or.inl (by unfold scC; omega)
