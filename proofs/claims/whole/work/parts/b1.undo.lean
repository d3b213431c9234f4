/-! ===== undo ===== -/
theorem c_restore {X : CX} {I R D K : PF} (hs : Shp R) (hG : GD D) (h4 : 0 ≤ I 136 4 ∧ I 136 4 < 20) (h5 : 0 < I 136 5 ∧ I 136 5 ≤ 20) (hS : StC D K (143 + 8 * cSl I 1) I) :
    CN X 2 mX4_restore [(2, 136), (2, 111)] I R (fun v I' R' => v.2 = 1 ∧ I' 136 5 = I 136 5 - 1 ∧ I' 136 4 = (I 136 4 + 19) % 20 ∧ I' 136 1 = I 142 (cSl I 1) ∧ StC D K 111 I' ∧ FR (fun x y => stC 111 x y ∨ (x = 136 ∧ (y = 1 ∨ y = 4 ∨ y = 5))) I I' ∧ R' = R) := by
  refine callee_b (by decide +kernel) (Nat.le_of_ble_eq_true rfl) rfl ?_
  have hD := hG.2.1
  have e3 := hS.1.2.2.2
  have cr := mod20 (I 136 4 - 1)
  have ce : cSl I 1 = (I 136 4 + 19) % 20 := by unfold cSl; omega
  have cr2 := mod20 (I 136 4 + 19)
  have a4 : (u2 I 136 5 (I 136 5 - 1)) 136 4 = I 136 4 := u2_j (by decide)
  have em : (I 136 4 + 20 - 1).tmod 20 = (I 136 4 + 19) % 20 := by rw [Int.tmod_eq_emod_of_nonneg (by omega)]; omega
  have b4 : (u2 (u2 I 136 5 (I 136 5 - 1)) 136 4 ((I 136 4 + 19) % 20)) 136 4 = (I 136 4 + 19) % 20 := u2_at
  have fA : FR (fun x y => x = 136 ∧ (y = 4 ∨ y = 5)) I (u2 (u2 I 136 5 (I 136 5 - 1)) 136 4 ((I 136 4 + 19) % 20)) := (FR_u2 ⟨rfl, Or.inr rfl⟩).tr (FR_u2 ⟨rfl, Or.inl rfl⟩)
  have eA5 : (u2 (u2 I 136 5 (I 136 5 - 1)) 136 4 ((I 136 4 + 19) % 20)) 136 5 = I 136 5 - 1 := by rw [u2_j (by decide), u2_at]
  refine S_X4_restore_0 (by omega) (fun _ => ?_) (fun g => by omega)
  have ck := slt_k cr2
  have S9 := @S_X4_restore_9 X 2 1 111 (143 + 8 * ((I 136 4 + 19) % 20)) I R
  rw [a4, em, b4] at S9
  generalize hA : u2 (u2 I 136 5 (I 136 5 - 1)) 136 4 ((I 136 4 + 19) % 20) = A at *
  have n : ∀ x y, x ≠ 136 → A x y = I x y := fun x y c => fA x y (fun d => c d.1)
  rw [ce] at hS e3
  have hSA : StC D K (143 + 8 * ((I 136 4 + 19) % 20)) A := hS.fr ⟨by omega, by omega⟩ (fun x y c => n x y (by unfold stC at c; omega))
  refine S9 hs (by omega) cr2 (slt_r hs cr2) (by omega) (c_copyFrom hs kM111 ck (by omega) (by rw [n _ _ (by omega)]; omega)) kM111 (fun z2 I2 R2 r => ?_)
  obtain ⟨x0, x1, x2, x3, x4, x5, rfl⟩ := r
  have n2 : ∀ x y, 119 ≤ x → I2 x y = A x y := fun x y c => x5 x y (fun k => by unfold stC at k; omega)
  have c4 : I2 136 4 = (I 136 4 + 19) % 20 := (n2 _ _ (by decide)).trans b4
  refine S_X4_restore_48 hs (by rw [c4]; exact cr2) ⟨rfl, ?_, ?_, ?_, ?_, ?_, rfl⟩
  · rw [u2_j (by decide), n2 _ _ (by decide)]; exact eA5
  · rw [u2_j (by decide)]; exact c4
  · rw [u2_at, c4, ce, n2 _ _ (by decide), n _ _ (by decide)]
  · exact (hSA.cp x0 x1 x2 x3 x4).fr ⟨by omega, by omega⟩ (fun x y c => u2_o (by unfold stC at c; omega))
  · exact ((fA.mono (fun x y c => Or.inr ⟨c.1, by omega⟩)).tr (x5.mono (fun x y c => Or.inl c))).tr (FR_u2 (Or.inr ⟨rfl, Or.inl rfl⟩))
theorem c_mundo {X : CX} {I R : PF} (hs : Shp R) (h76 : 0 < I 306 76 ∧ I 306 76 ≤ 20) (h77 : 0 ≤ I 306 77 ∧ I 306 77 < 20) :
    CN X 0 mX11_undo [(2, 306)] I R (fun v I' R' => v.2 = 1 ∧ I' 306 77 = (I 306 77 + 19) % 20 ∧ I' 306 76 = I 306 76 - 1 ∧ (∀ y, 0 ≤ y → y < 154 → I' 348 y = I 354 (154 * I 306 77 + y)) ∧ FR (fun x y => (x = 306 ∧ (y = 76 ∨ y = 77)) ∨ (x = 348 ∧ 0 ≤ y ∧ y < 154)) I I' ∧ R' = R) := by
  refine callee_b (by decide +kernel) (Nat.le_of_ble_eq_true rfl) rfl ?_
  have lp : ∀ (m : Nat) (k : Int) (J : PF), (154 - k).toNat < m → 0 ≤ k → k ≤ 154 → (∀ y, 0 ≤ y → y < k → J 348 y = I 354 (154 * I 306 77 + y)) → FR (fun x y => x = 348 ∧ 0 ≤ y ∧ y < 154) I J →
      PN X 0 mX11_undo 21 [(2, 306), (0, k)] [] J R (fun v I' R' => v.2 = 1 ∧ I' 306 77 = (I 306 77 + 19) % 20 ∧ I' 306 76 = I 306 76 - 1 ∧ (∀ y, 0 ≤ y → y < 154 → I' 348 y = I 354 (154 * I 306 77 + y)) ∧ FR (fun x y => (x = 306 ∧ (y = 76 ∨ y = 77)) ∨ (x = 348 ∧ 0 ≤ y ∧ y < 154)) I I' ∧ R' = R) := by
    intro m
    induction m with
    | zero => intro k J h; exact absurd h (Nat.not_lt_zero _)
    | succ m ih =>
      intro k J hm k0 k1 hy f
      have e77 : J 306 77 = I 306 77 := f _ _ (by omega)
      have e76 : J 306 76 = I 306 76 := f _ _ (by omega)
      refine S_X11_undo_21 (by omega) (fun g => ?_) (fun g => ?_)
      · refine S_X11_undo_55 (by rw [e77]; omega) ?_
        have em : (J 306 77 + 20 - 1).tmod 20 = (I 306 77 + 19) % 20 := by rw [e77, Int.tmod_eq_emod_of_nonneg (by omega)]; omega
        have e76' : (u2 J 306 77 ((I 306 77 + 19) % 20)) 306 76 = I 306 76 := by rw [u2_j (by decide)]; exact e76
        rw [em, e76']
        refine ⟨rfl, ?_, u2_at, fun y y0 y1 => ?_, ((f.mono (fun x y c => Or.inr c)).tr (FR_u2 (Or.inl ⟨rfl, Or.inr rfl⟩))).tr (FR_u2 (Or.inl ⟨rfl, Or.inl rfl⟩)), rfl⟩
        · rw [u2_j (by decide), u2_at]
        · rw [u2_o (by decide), u2_o (by decide)]; exact hy y y0 (by omega)
      · refine S_X11_undo_28 hs (by rw [e77]; omega) (by omega) (ih (k + 1) _ (by omega) (by omega) (by omega) (fun y y0 y1 => ?_) (f.tr (FR_u2 ⟨rfl, by omega, by omega⟩)))
        by_cases e : y = k
        · rw [e, u2_at, e77]; exact f _ _ (by omega)
        · rw [u2_j e]; exact hy y y0 (by omega)
  exact S_X11_undo_0 (by omega) (fun _ => S_X11_undo_19 (lp _ 0 I (Nat.lt_succ_self _) (by decide) (by decide) (fun y y0 y1 => by omega) FR.rf)) (fun g => by omega)
theorem b_undo {X : CX} {I R : PF} (h : Sim I R) : Both X 3 0 mX10_undo mX11_undo [] I R := by
  obtain ⟨hs, -, -, hm, p, o, hp, hT⟩ := id h
  have hv := h.vw hp
  have v4 := hv.2.2.2.1
  have c4 := hm.2.2.2.2.2.2.1
  have h77 : 0 ≤ I 306 77 ∧ I 306 77 < 20 := ⟨hm.2.2.2.2.2.2.2.1, hm.2.2.2.2.2.2.2.2⟩
  by_cases ok : I 306 76 = 0
  · refine Both.rfs h (u := 0) (k := 4) ?_ (fun J e => ?_)
    · refine callee_b (by decide +kernel) (Nat.le_of_ble_eq_true rfl) rfl ?_
      refine S_X10_undo_0 (d1 := 2) hs (by omega) (callee_b (by decide +kernel) (Nat.le_of_ble_eq_true rfl) rfl (S_X4_restore_0 (Q := fun v I' R' => v.2 = 0 ∧ I' = I ∧ R' = R) (by omega) (fun g => absurd (v4.1.trans ok) g) (fun _ => S_X4_restore_7 ⟨rfl, rfl, rfl⟩))) (fun z I1 R1 q => ?_)
      obtain ⟨(hz : z = _), rfl, rfl⟩ := q
      exact S_X10_undo_11 (by omega) (fun g => absurd hz g) (fun _ => S_X10_undo_14 hs ⟨rfl, rfl, rfl⟩)
    · have e76 : J 306 76 = I 306 76 := e _ _ (by decide)
      exact callee_b (by decide +kernel) (Nat.le_of_ble_eq_true rfl) rfl (S_X11_undo_0 (by omega) (fun g => absurd (e76.trans ok) g) (fun _ => S_X11_undo_7 hs ⟨rfl, rfl, rfl⟩))
  · rcases hT with hT | ⟨D, hT⟩
    · exact absurd hT.2.2.2.2.2.2.2.1 ok
    obtain ⟨hG, hW, hQ, hL, hST, hK, hS, hP, hE⟩ := id hT
    have hD := hG.2.1
    have hpp := hp.2.2
    obtain ⟨p1, p2, p3, p4, p5, p6⟩ := hP
    refine callee_b (by decide +kernel) (Nat.le_of_ble_eq_true rfl) rfl ?_
    refine S_X10_undo_0 (d1 := 2) hs (by omega) (c_restore (K := slK I (mSl I 1)) hs hG c4 ⟨by omega, by omega⟩ (p5 1 (by decide) (by omega)).1) (fun z I1 R1 q => ?_)
    obtain ⟨(hz : z = _), q2, q3, q4, q5, q6, rfl⟩ := q
    have n1 : ∀ x y, ¬ (111 ≤ x ∧ x ≤ 118) → ¬ (x = 136 ∧ (y = 1 ∨ y = 4 ∨ y = 5)) → I1 x y = I x y := fun x y c c2 => q6 x y (fun d => by unfold stC at d; omega)
    refine S_X10_undo_11 (by omega) (fun _ => S_X10_undo_26 ?_) (fun g => by omega)
    have i77 : I1 306 77 = I 306 77 := n1 _ _ (by decide) (by decide)
    have i76 : I1 306 76 = I 306 76 := n1 _ _ (by decide) (by decide)
    refine Callee.mono (c_mundo hs (by omega) (by omega)) (fun v' J R3 r => ?_)
    obtain ⟨w1, w2, w3, w4, w5, rfl⟩ := r
    refine ⟨w1, ?_⟩
    have n2 : ∀ x y, ¬ (x = 306 ∧ (y = 76 ∨ y = 77)) → x ≠ 348 → J x y = I1 x y := fun x y c c2 => w5 x y (fun d => by omega)
    have m1 : mSl I 1 = I 306 77 := by unfold mSl; omega
    obtain ⟨z1, z2, z3⟩ := Pst.pop (D := D) (I := I) (J := J) ⟨p2, p3, p4, p5, p6⟩ ⟨by omega, by omega⟩ ok ((n2 _ _ (by omega) (by omega)).trans q3) ((n2 _ _ (by omega) (by omega)).trans q2) (fun x y x0 x1 => (n2 _ _ (by omega) (by omega)).trans (n1 _ _ (by omega) (by omega))) (by rw [w2, i77]) (by rw [w3, i76]) (fun y => (n2 _ _ (by omega) (by omega)).trans (n1 _ _ (by omega) (by omega))) (fun y _ => (n2 _ _ (by omega) (by omega)).trans (n1 _ _ (by omega) (by omega))) ((n2 _ _ (by omega) (by omega)).trans q4)
      (fun y y0 y1 => by rw [w4 y y0 y1, i77, m1]; exact n1 _ _ (by omega) (by omega))
    have j4 : J 136 4 = (I 136 4 + 19) % 20 := (n2 _ _ (by omega) (by omega)).trans q3
    have m20 := mod20 (I 136 4 + 19)
    have m77 := mod20 (I 306 77 + 19)
    have j342 : ∀ y, J 342 y = I 342 y := fun y => (n2 _ _ (by omega) (by omega)).trans (n1 _ _ (by omega) (by omega))
    refine h.act hp hT ((q6.mono (fun x y c => ?_)).tr (w5.mono (fun x y c => ?_))) FR.rf ?_ ?_ (by omega) ?_ ?_ z2 z1
    · unfold stC at c; unfold acA; omega
    · unfold acA; omega
    · rw [n2 _ _ (by decide) (by decide), n1 _ _ (by decide) (by decide)]; exact hm.2.2.2.2.2.1
    · rw [n2 _ _ (by decide) (by decide), n1 _ _ (by decide) (by decide), n2 306 78 (by decide) (by decide), n1 306 78 (by decide) (by decide)]; exact hm.2.2.1
    · rw [w2, i77]; exact m77
    · refine (q5.cg ⟨by omega, by omega⟩ (fun y y0 y1 => ?_) (fun y _ => ?_)).fr ⟨by omega, by omega⟩ (fun x y c => n2 x y (by unfold stC at c; omega) (by unfold stC at c; omega))
      · unfold slK
        rw [if_pos rfl, m1, w4 y y0 (by omega), i77]
        exact n1 _ _ (by omega) (by omega)
      · unfold slK
        rw [if_neg (by decide)]; exact j342 y
