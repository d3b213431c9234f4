/-! ===== ask: both ===== -/
theorem AnQ_eq {D I : PF} {r : (Int × List Int) ⊕ (Int × Int)} {v v' a a' b b' : Int} (h : AnQ D I r v a b) (h' : AnQ D I r v' a' b') : v' = v ∧ a = a' ∧ b = b' := by
  cases r with
  | inl y => exact ⟨h'.1.trans h.1.symm, h.2.1.trans h'.2.1.symm, h.2.2.trans h'.2.2.symm⟩
  | inr f => exact ⟨h'.1.trans h.1.symm, h.2.1.trans h'.2.1.symm, h.2.2.trans h'.2.2.symm⟩
theorem b_ask {X : CX} {I R : PF} (h : Sim I R) : Both X 37 10 mX10_ask mX11_ask [] I R := by
  obtain ⟨hs, hcw, hta, hm, p, o, hp, hT⟩ := id h
  obtain ⟨q1, q2, q3, q4, q5⟩ := id hta
  have hpp := hp.2.2
  have hpp' := sq_o (plc_k hp).1
  rcases hT with hT | ⟨D, hT⟩
  · have p0 := hT.1.1
    refine callee_b (by decide +kernel) (Nat.le_of_ble_eq_true rfl) rfl ?_
    refine S_X10_ask_0 (d1 := 0) (by omega) c_takeTape (fun z I1 R1 q => ?_)
    obtain ⟨-, eA, rfl⟩ := q
    have n1 : ∀ x y, x ≠ 64 → I1 x y = I x y := fun x y c => by rw [eA, u2_o c]
    refine S_X10_ask_4 (d1 := 0) (by omega) (c_isToldX hp (by rw [n1 _ _ (by omega), p0]; decide)) (fun z2 I2 R2 q => ?_)
    obtain ⟨(hz2 : z2 = _), rfl, rfl⟩ := q
    rw [n1 p 0 (by omega), bi_f (by omega)] at hz2
    refine S_X10_ask_9 (by omega) (fun g => absurd hz2 g) (fun _ => S_X10_ask_12 ?_)
    have e55 : I2 306 55 = 0 := (n1 _ _ (by decide)).trans hT.2.1
    refine callee_b (by decide +kernel) (Nat.le_of_ble_eq_true rfl) rfl (S_X11_ask_0 (by rw [e55]; decide) (fun g => absurd e55 g) (fun _ => S_X11_ask_7 ⟨rfl, ?_⟩))
    rw [eA]
    exact h.tk
  obtain ⟨hG, hW, hQ, hL, hST, hK, hS, -⟩ := id hT
  refine Callee.mono (c_xask (K := (I 306 1).toNat + 1) h hp hT q2 (by omega)) (fun v I1 R1 r => ?_)
  obtain ⟨r1, r2, r3, r4, r5⟩ := r
  have hs1 := hs.fr (scR_mR r5)
  have n1 : ∀ x y, (1 ≤ x ∧ x ≤ 66 ∧ x ≠ 64 ∨ x = 303 ∧ y = 0 ∨ 304 ≤ x ∨ x = 136) → I1 x y = I x y := fun x y c => r4 x y (fun d => by unfold kF scC at d; omega)
  refine Callee.mono (c_mask (I := I) (t := I 65) (n := I 306 1) (K := (I 306 1).toNat + 1) hs1 (hST.cg hG (fun y c => n1 _ _ (by omega)) (fun y c => n1 _ _ (by omega)) (fun y c => n1 _ _ (by omega)) (fun y c => n1 _ _ (by omega)) (fun y c => n1 _ _ (by omega)) (fun y c => n1 _ _ (by omega)) (fun x y c c2 => n1 _ _ (by omega)) (fun y c => n1 _ _ (by omega))) (funext fun y => n1 _ _ (by omega)) (funext fun y => n1 _ _ (by omega)) hG hW hK (by rw [n1 _ _ (by omega)]; exact hm.2.2.1.2) (hcw.1.rows (fun a ha => funext fun y => n1 _ _ (by omega))) (n1 _ _ (by omega)) ⟨q3, q4⟩ ((funext fun y => n1 _ _ (by omega)).trans q1.symm) (by rw [q1]; exact q5) (by omega)) (fun v' J R2 r => ?_)
  obtain ⟨w1, w2, w3, rfl⟩ := r
  obtain ⟨e1, e2, e3⟩ := AnQ_eq r1 w1
  refine ⟨e1, ?_⟩
  have n2 : ∀ x y, (x < 306 ∨ x = 307 ∨ x = 308 ∨ x = 382 ∨ (x = 306 ∧ (y = 72 ∨ y = 77 ∨ y = 78 ∨ y = 114))) → J x y = I1 x y := fun x y c => w3 x y (fun d => by unfold mA scM at d; omega)
  refine h.up hp ((r4.mono (fun x y c => ?_)).tr (w3.mono (fun x y c => ?_))) r5 ?_ ?_
  · rcases c with c | c
    · exact Or.inl c
    · exact Or.inr (Or.inr (by unfold smC; omega))
  · rcases c with c | c
    · exact Or.inr (Or.inl c)
    · exact Or.inr (Or.inr (by unfold smC; omega))
  · refine ⟨?_, ?_, by rw [w2]; decide, by rw [w2]; decide, fun j j0 j1 => by rw [n2 _ _ (by omega), n1 _ _ (by omega)]; exact q5 j j0 j1⟩
    · funext y
      rw [n2 65 y (by omega), n1 65 y (by omega), n2 307 y (by omega), n1 307 y (by omega), q1]
    · rw [n2 _ _ (by omega), r2, w2]
  · obtain ⟨a1, a2, a3, a4, a5, a6, a7, a8⟩ := hm
    have n3 : ∀ x y, (x = 66 ∨ x = 303 ∧ y = 0 ∨ x = 304 ∨ x = 305 ∨ x = 136 ∨ x = 308 ∨ x = 382 ∨ (x = 306 ∧ (y = 72 ∨ y = 77 ∨ y = 78 ∨ y = 114))) → J x y = I x y := fun x y c => (n2 x y (by omega)).trans (n1 x y (by omega))
    have n19 : J 64 19 = I 64 19 := (n2 _ _ (by omega)).trans (r4 _ _ (fun d => by unfold kF scC at d; omega))
    refine ⟨fun j => by rw [n3 _ _ (by omega), n3 308 _ (by omega)]; exact a1 j, ?_, ?_, ?_, by rw [n3 _ _ (by omega)]; exact a5, by rw [n2 _ _ (by omega)]; exact r3, by rw [n3 _ _ (by omega)]; exact a7, by rw [n3 _ _ (by omega)]; exact a8⟩
    · rw [n2 64 3 (by omega), n2 64 4 (by omega)]; exact ⟨e2, e3⟩
    · rw [n3 303 0 (by omega), n3 306 78 (by omega)]; exact a3
    · rw [n19, n3 306 114 (by omega)]
      refine ⟨a4.1, a4.2.1, a4.2.2.1, fun k k0 k1 => ?_⟩
      rw [n3 305 k (by omega), n3 382 k (by omega)]
      exact a4.2.2.2 k k0 k1
