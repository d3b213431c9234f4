/-! ===== the class's step ===== -/
def T01 (I : PF) : Prop := ∀ j, 0 ≤ j → j < 81 → I 130 j = 0 ∨ I 130 j = 1
def mSt1 (x y : Int) : Prop := x = 128 ∨ x = 129 ∨ x = 130
theorem cst_loop {X : CX} {d : Nat} {I R : PF} {Q : PV → PF → PF → Prop} {o p : Int} {D : PF} {h : Int × Int} {P : Int → Int × Int} (hs : Shp R) (hd : 2 ≤ d) (ho : R 127 0 = o) (hk : kd MF o = 6) (hQR : QR D o I) (hG : GD D) (hP : ClP (D 339 1) P I) (hT : Tkn D P I) (h01 : T01 I) (hI : PIn D P) (hp : 0 ≤ p ∧ p < D 339 1) (hq : inQ D h) (h1 : I 127 3 = h.1) (h2 : I 127 4 = h.2)
    (h0 : stw D P h p = 0 → Q (0, 0) I R) (hY : stw D P h p ≠ 0 → Q (0, 1) (u2 (u2 (u2 (u2 I 130 (9 * (P p).2 + (P p).1) 0) 128 p (stT (P p) (stw D P h p)).1) 129 p (stT (P p) (stw D P h p)).2) 130 (9 * (stT (P p) (stw D P h p)).2 + (stT (P p) (stw D P h p)).1) 1) R) : ∀ (m : Nat) (w : Int), (9 - w).toNat < m → 1 ≤ w → w ≤ 9 → (∀ j, 0 ≤ j → j < w - 1 → ¬ Nr D P h p j) →
    PN X d mX1_step 19 [(2, 127), (0, p), (0, far h (P p)), (0, w)] [] I R Q := by
  intro m
  obtain ⟨⟨a1, a2, a3, a4, -⟩, ⟨-, -, r3, r4, -⟩, -⟩ := id hG
  obtain ⟨⟨o0, o1, -⟩, -⟩ := id hQR
  obtain ⟨e1, e2⟩ := hP p hp.1 hp.2
  obtain ⟨i1, i2, i3, i4⟩ := hI p hp.1 hp.2
  obtain ⟨j1, j2, j3, j4⟩ := hq
  have fr : far h (P p) ≤ 100 ∧ 0 ≤ far h (P p) := by unfold far; omega
  induction m with
  | zero => intro w hm; exact absurd hm (Nat.not_lt_zero _)
  | succ m ih =>
    intro w hm w1 w9 inv
    have none : (∀ j, 0 ≤ j → j < 8 → ¬ Nr D P h p j) → PN X d mX1_step 171 [] [] I R Q := fun c => S_X1_step_171 (h0 (by unfold stw; rw [fI_none.mpr c]; decide))
    refine S_X1_step_19 (by omega) (fun g => none (fun j j0 j1 => inv j j0 (by omega))) (fun g => ?_)
    refine S_X1_step_25 (by omega) (fun g2 => none (fun j j0 j1 c => ?_)) (fun g2 => ?_)
    · have c2 := c.2
      have : 0 ≤ far h (stT (P p) (j + 1)) := by unfold far; omega
      omega
    have hw : 0 ≤ w ∧ w < 9 := by omega
    obtain ⟨s1, s2, s3, s4⟩ := stp_r' hw
    have ex : I 128 p + (sT 40).getD w.toNat 0 = (stT (P p) w).1 := by rw [e1]; rfl
    have ey : I 129 p + (sT 41).getD w.toNat 0 = (stT (P p) w).2 := by rw [e2]; rfl
    have b1 : -100 ≤ (stT (P p) w).1 ∧ (stT (P p) w).1 ≤ 100 := by show -100 ≤ (P p).1 + stX w ∧ (P p).1 + stX w ≤ 100; omega
    have b2 : -100 ≤ (stT (P p) w).2 ∧ (stT (P p) w).2 ≤ 100 := by show -100 ≤ (P p).2 + stY w ∧ (P p).2 + stY w ≤ 100; omega
    have fw := far_st (h := h) (q := P p) hw
    have hN : Nr D P h p (w - 1) ↔ Free D P p (stT (P p) w).1 (stT (P p) w).2 ∧ far h (stT (P p) w) < far h (P p) := by
      unfold Nr; rw [show w - 1 + 1 = w by omega]
    have next : ¬ Nr D P h p (w - 1) → PN X d mX1_step 165 [(2, 127), (0, p), (0, far h (P p)), (0, w)] [] I R Q := fun c => by
      refine S_X1_step_165 (ih (w + 1) (by omega) (by omega) (by omega) (fun j j0 j1 => ?_))
      by_cases e : j = w - 1
      · rw [e]; exact c
      · exact inv j j0 (by omega)
    refine S_X1_step_29 (d1 := 1) hs (by omega) hw (by omega) (by rw [ex, ey]; exact c_farFromHat h1 h2 (by omega) b1 b2) (fun z I1 R1 q => ?_)
    obtain ⟨(hz : z = far h (stT (P p) w)), rfl, rfl⟩ := q
    rw [ex, ey]
    have skip : ¬ Nr D P h p (w - 1) → PN X d mX1_step 87 [(2, 127), (0, p), (0, far h (P p)), (0, w), (0, (stT (P p) w).1), (0, (stT (P p) w).2)] [] I1 R1 Q := fun c =>
      S_X1_step_87 (S_X1_step_88 (by decide) (fun _ => next c) (fun g => absurd rfl g))
    refine S_X1_step_65 (by omega) (by omega) (fun g3 => skip (fun c => by have := (hN.mp c).2; omega)) (fun g3 => ?_)
    refine S_X1_step_69 (d1 := 0) ho (by omega) (c_within hk (by unfold inR; omega) (by unfold inR; omega) (by rw [o0]; unfold inR; omega) (by rw [o1]; unfold inR; omega)) hk (fun z2 I2 R2 q => ?_)
    obtain ⟨(hz2 : z2 = _), rfl, rfl⟩ := q
    rw [o0, o1] at hz2
    have br := bi_r (0 ≤ (stT (P p) w).1 ∧ (stT (P p) w).1 < D 341 0 ∧ 0 ≤ (stT (P p) w).2 ∧ (stT (P p) w).2 < D 341 1)
    refine S_X1_step_80 (by omega) (fun g4 => ?_) (fun g4 => ?_)
    · have c := bi_0 (hz2.symm.trans g4)
      exact skip (fun k => c (hN.mp k).1.1)
    have cin := bi_1 (by rw [← hz2]; exact g4)
    refine S_X1_step_83 (S_X1_step_88 (by decide) (fun g => absurd g (by decide)) (fun _ => ?_))
    have ht := hT (stT (P p) w).1 (stT (P p) w).2 (by omega) (by omega) (by omega) (by omega)
    have hv := h01 (9 * (stT (P p) w).2 + (stT (P p) w).1) (by omega) (by omega)
    refine S_X1_step_95 hs (by omega) (by omega) (fun g5 => next (fun c => ?_)) (fun g5 => ?_)
    · obtain ⟨⟨-, c2, c3⟩, c4⟩ := hN.mp c
      rcases ht.mp g5 with k | ⟨k, k0, k1, k2, k3⟩
      · exact c2 k
      · by_cases e : k = p
        · subst e
          have : P k = stT (P k) w := Prod.ext k2 k3
          rw [← this] at c4
          omega
        · exact c3 k k0 k1 e ⟨k2, k3⟩
    · have nt : ¬ (wlT D (stT (P p) w).1 (stT (P p) w).2 ∨ ∃ k, 0 ≤ k ∧ k < D 339 1 ∧ (P k).1 = (stT (P p) w).1 ∧ (P k).2 = (stT (P p) w).2) := fun c => ht.mpr c g5
      have hNr : Nr D P h p (w - 1) := hN.mpr ⟨⟨cin, fun c => nt (Or.inl c), fun k k0 k1 _ c => nt (Or.inr ⟨k, k0, k1, c.1, c.2⟩)⟩, by omega⟩
      have es : stw D P h p = w := by
        unfold stw
        have := Fst.fI (P := Nr D P h p) (n := 8) (r := w - 1) (Or.inr ⟨by omega, by omega, hNr, inv⟩)
        omega
      have := hY (by omega)
      rw [es] at this
      refine S_X1_step_111 hs (by omega) (by omega) (by omega) ?_
      rw [e1, e2]
      exact this
