/-! ===== square: both ===== -/
theorem Tld.od {D : PF} {p o : Int} {I I' : PF} (h : Tld D p I) (hp : p = 72 ∧ o = 91 ∨ p = 91 ∧ o = 72) (f : FR (fun x y => o ≤ x ∧ x ≤ o + 18) I I') : Tld D p I' := by
  obtain ⟨h1, h2, h3, h4, h5, h6, h7, h8, h9⟩ := h
  have hD := h1.2.1
  have e : ∀ x y, ¬ (o ≤ x ∧ x ≤ o + 18) → I' x y = I x y := f
  have e8 : ∀ y, I' 348 y = I 348 y := fun y => e _ _ (by omega)
  have e2 : ∀ y, 24 ≤ y → I' 342 y = I 342 y := fun y hy => e _ _ (by omega)
  refine ⟨h1, h2, h3.f2 (fun x x0 x1 x2 x3 => funext fun y => e x y (by omega)) h1, fun k k0 k1 => ?_, h5.cg h1 (fun y c => e _ _ (by omega)) (fun y c => e _ _ (by omega)) (fun y c => e _ _ (by omega)) (fun y c => e _ _ (by omega)) e2 (fun y c => e _ _ (by omega)) (fun x y c c2 => e _ _ (by omega)) (fun y c => e _ _ (by omega)), h6.cg ⟨by omega, by omega⟩ (fun y _ _ => e8 y) e2, (h7.cg ⟨by omega, by omega⟩ (fun y _ _ => e8 y) e2).fr ⟨by omega, by omega⟩ (fun x y c => e x y (by unfold stC at c; omega)), h8.cg ⟨by omega, by omega⟩ (fun y _ _ => e8 y) e2 (fun y => e _ _ (by omega)) (fun x y x0 x1 => e _ _ (by omega)) (e _ _ (by omega)) (e _ _ (by omega)), h9.cg (e _ _ (by omega)) (e _ _ (by omega)) (fun y => e _ _ (by omega)) (fun y => e _ _ (by omega))⟩
  rw [e _ _ (by omega)]; exact h4 k k0 k1
theorem Non.od {p o : Int} {I I' : PF} (h : Non p I) (hp : p = 72 ∧ o = 91 ∨ p = 91 ∧ o = 72) (f : FR (fun x y => o ≤ x ∧ x ≤ o + 18) I I') : Non p I' := by
  have n : ∀ x y, ¬ (o ≤ x ∧ x ≤ o + 18) → I' x y = I x y := f
  unfold Non at h ⊢
  rw [n p 0 (by omega), n p 1 (by omega), n p 5 (by omega), n p 6 (by omega), n 306 55 (by omega), n 306 73 (by omega), n 306 76 (by omega), n 341 5 (by omega), n 341 6 (by omega), n 339 3 (by omega), n 339 4 (by omega), n 339 5 (by omega), n 111 0 (by omega), n 111 1 (by omega), n 111 2 (by omega), n 111 3 (by omega), n 348 0 (by omega), n 348 1 (by omega), n 348 2 (by omega), n 348 33 (by omega), n 136 1 (by omega), n 136 5 (by omega), n 64 17 (by omega)]
  exact h
/-- the cells that the model's square changes but for what stands -/
def mSn (x y : Int) : Prop := mS x y ∨ (x = 306 ∧ (y = 1 ∨ y = 3 ∨ y = 7 ∨ y = 8)) ∨ (x = 308 ∧ y = 1)
theorem mSn_A {p o x y : Int} (h : mSn x y) : scA p o x y := by
  unfold mSn mS mT at h
  rcases h with ((h | h | h | h) | h) | h | h
  · unfold mPl at h
    obtain ⟨rfl, h⟩ := h
    refine Or.inr (Or.inl (Or.inl ⟨rfl, ?_⟩))
    rcases h with rfl | rfl | rfl | rfl | rfl | rfl | rfl | rfl <;> decide
  · refine Or.inr (Or.inl ?_)
    unfold tD at h
    rcases h with ⟨rfl, h⟩ | h | h | h | h | h | h | h | h | h
    · refine Or.inl ⟨rfl, ?_⟩
      rcases h with rfl | rfl <;> decide
    all_goals (unfold scM; omega)
  · refine Or.inr (Or.inl ?_)
    unfold mQ at h
    rcases h with ⟨rfl, h⟩ | h | h
    · refine Or.inl ⟨rfl, ?_⟩
      rcases h with rfl | rfl | rfl | rfl <;> decide
    · exact Or.inr (Or.inr (Or.inl h))
    · exact Or.inr (Or.inr (Or.inr (Or.inl h)))
  · obtain ⟨rfl, rfl⟩ := h
    exact Or.inr (Or.inl (Or.inl ⟨rfl, by decide⟩))
  · obtain ⟨rfl, rfl⟩ := h
    exact Or.inr (Or.inl (Or.inl ⟨rfl, by decide⟩))
  · obtain ⟨rfl, h⟩ := h
    rcases h with rfl | rfl | rfl | rfl
    · exact Or.inr (Or.inr (by unfold smC; omega))
    · exact Or.inr (Or.inl (Or.inl ⟨rfl, by decide⟩))
    · exact Or.inr (Or.inr (by unfold smC; omega))
    · exact Or.inr (Or.inr (by unfold smC; omega))
  · exact Or.inr (Or.inr (by unfold smC; omega))
theorem b_square {X : CX} {I R : PF} (h : Sim I R) : Both X 37 12 mX10_square mX11_square [] I R := by
  obtain ⟨hs, hcw, hta, hm, p, o, hp, hT⟩ := id h
  obtain ⟨q1, q2, q3, q4, q5⟩ := id hta
  have hpp := hp.2.2
  obtain ⟨kp, ko⟩ := plc_k hp
  refine Callee.mono (c_dsquare (t := I 65) (n := I 306 1) (D := I) (p := p) (o := o) hs rfl q2 ⟨q3, q4⟩ (by rw [q1]; exact q5) hp.1 hp.2.1 kp ko (by omega)) (fun v I1 R1 r => ?_)
  obtain ⟨r1, r2, r3, r4⟩ := r
  have hs1 := hs.fr (dTR_mR r4)
  have n1 : ∀ x y, (304 ≤ x ∨ x = 65 ∨ x = 303 ∨ (119 ≤ x ∧ x ≤ 135) ∨ (137 ≤ x ∧ x ≤ 302) ∨ (x = 64 ∧ y = 19) ∨ (x = 136 ∧ y = 4) ∨ (p ≤ x ∧ x ≤ p + 18) ∨ (o + 13 ≤ x ∧ x ≤ o + 18 ∧ y = 7)) → I1 x y = I x y := fun x y c => r3 x y (fun d => by unfold dTop dS sqC stC at d; omega)
  have ag : AgD I I1 := fun x y c => n1 x y (by unfold tD at c; omega)
  refine Callee.mono (c_square (t := I 65) (n := I 306 1) (D := I) hs1 ((funext fun y => n1 _ _ (by omega)).trans q1.symm) (n1 _ _ (by omega)) ⟨q3, q4⟩ (by rw [q1]; exact q5) ag (hcw.1.rows (fun a ha => funext fun y => n1 _ _ (by omega)))) (fun v' J R2 r => ?_)
  obtain ⟨w1, w2, w3, rfl⟩ := r
  have mlo : ∀ x y, mSq x y → 306 ≤ x ∧ x ≠ 307 ∧ x ≠ 382 ∧ (x = 308 → y = 1) ∧ (x = 306 → y ≠ 72 ∧ y ≠ 77 ∧ y ≠ 78 ∧ y ≠ 114) := fun x y c => by
    unfold mSq mS mT mPl tD mQ mSt at c; omega
  have n2 : ∀ x y, (x ≤ 305 ∨ x = 307 ∨ x = 382 ∨ (x = 308 ∧ y ≠ 1) ∨ (x = 306 ∧ (y = 72 ∨ y = 77 ∨ y = 78 ∨ y = 114))) → J x y = I1 x y := fun x y c => w2 x y (fun d => by have := mlo x y d; omega)
  have z7 : Z7 J := fun x hx => by
    rw [n2 x 7 (by omega), n1 x 7 (by omega)]; exact hcw.2 x hx
  have tap : J 306 1 = 0 → Tap J := fun e => ⟨by funext y; rw [n2 65 y (by omega), n1 65 y (by omega), n2 307 y (by omega), n1 307 y (by omega), q1], by rw [n2 _ _ (by omega), r2, e], by rw [e]; decide, by rw [e]; decide, fun j j0 j1 => by rw [n2 _ _ (by omega), n1 _ _ (by omega)]; exact q5 j j0 j1⟩
  have sml : (∀ j, J 66 j = J 308 j) → J 64 3 = J 306 7 → J 64 4 = J 306 8 → Sml J := fun e1 e2 e3 => by
    obtain ⟨a1, a2, a3, a4, a5, a6, a7, a8⟩ := hm
    have n3 : ∀ x y, (x = 303 ∨ x = 305 ∨ x = 382 ∨ (119 ≤ x ∧ x ≤ 135) ∨ (x = 64 ∧ y = 19) ∨ (x = 136 ∧ y = 4) ∨ (x = 306 ∧ (y = 72 ∨ y = 77 ∨ y = 78 ∨ y = 114))) → J x y = I x y := fun x y c => (n2 x y (by omega)).trans (n1 x y (by omega))
    refine ⟨e1, ⟨e2, e3⟩, ?_, ?_, by rw [n3 _ _ (by omega)]; exact a5, by rw [n3 _ _ (by omega)]; exact a6, by rw [n3 _ _ (by omega)]; exact a7, by rw [n3 _ _ (by omega)]; exact a8⟩
    · rw [n3 303 0 (by omega), n3 306 78 (by omega)]; exact a3
    · rw [n3 64 19 (by omega), n3 306 114 (by omega)]
      refine ⟨a4.1, a4.2.1, a4.2.2.1, fun k k0 k1 => ?_⟩
      rw [n3 305 k (by omega), n3 382 k (by omega)]
      exact a4.2.2.2 k k0 k1
  have wd := fun q (hq : (sgR (I 65) (I 306 1) I).1 = .inl q) => WD_sgR hq
  generalize hr : sgR (I 65) (I 306 1) I = r at r1 w1 wd
  obtain ⟨s, D, c⟩ := r
  cases s with
  | inr f =>
    obtain ⟨a1, a2, a3, a4, a5, a6, a7, a8⟩ := r1
    obtain ⟨b1, b2, b3, b4, b5, b6, b7⟩ := w1
    refine ⟨b1.trans a1.symm, hs1, ⟨w3, z7⟩, tap b5, sml (fun j => ?_) ?_ ?_, p, o, ⟨a5, a6, hpp⟩, ?_⟩
    · rw [n2 66 j (by omega), a7 j, b6 j]
      by_cases e : j = 1
      · rw [e, u2_at, u2_at, n1 308 1 (by omega), hm.1]
      · rw [u2_j e, u2_j e, n1 308 j (by omega), hm.1]
    · rw [n2 64 3 (by omega), a2, b2]
    · rw [n2 64 4 (by omega), a4, b4]
    · have fS : FR mSn I1 J := fun x y c => by
        by_cases d : mSt x y
        · exact b7 x y d
        · exact w2 x y (fun k => by
            unfold mSq at k
            rcases k with k | k | k | k
            · exact c (Or.inl k)
            · exact d k
            · exact c (Or.inr (Or.inl k))
            · exact c (Or.inr (Or.inr k)))
      have fI : FR (fun x y => scA p o x y ∨ (o ≤ x ∧ x ≤ o + 18)) I I1 := fun x y c => by
        by_cases d : stC 111 x y ∨ (x = 64 ∧ y = 17) ∨ (x = 136 ∧ (y = 1 ∨ y = 5))
        · exact a8 x y d
        · refine r3 x y (fun k => ?_)
          unfold dTop at k
          rcases k with k | k | k | k | k
          · unfold dS sqC at k
            refine c ?_
            rcases k with k | k | k
            · exact Or.inl (Or.inl (by unfold scC; omega))
            · exact Or.inl (Or.inl (by unfold scC; omega))
            · exact Or.inr (by omega)
          · by_cases k17 : y = 17
            · exact d (Or.inr (Or.inl ⟨k.1, k17⟩))
            · exact c (Or.inl (Or.inr (Or.inr (by unfold smC; omega))))
          · exact c (Or.inl (Or.inr (Or.inr (by unfold smC; omega))))
          · exact d (Or.inl k)
          · exact d (Or.inr (Or.inr k))
      -- the spare square first, then the rest
      have g1 : FR (fun x y => o ≤ x ∧ x ≤ o + 18) I (fun x y => if o ≤ x ∧ x ≤ o + 18 then J x y else I x y) := fun x y c => if_neg c
      have g2 : FR (scA p o) (fun x y => if o ≤ x ∧ x ≤ o + 18 then J x y else I x y) J := fun x y c => by
        by_cases d : o ≤ x ∧ x ≤ o + 18
        · exact (if_pos d).symm
        · show J x y = if o ≤ x ∧ x ≤ o + 18 then J x y else I x y
          rw [if_neg d, fS x y (fun k => c (mSn_A k)), fI x y (fun k => k.elim c d)]
      rcases hT with hT | ⟨D0, hT⟩
      · exact Or.inl ((hT.od hpp g1).sm hpp g2)
      · exact Or.inr ⟨D0, (hT.od hpp g1).sm hpp g2⟩
  | inl q =>
    obtain ⟨(a1 : v.2 = c), (hG : GD D), (hQ : QR D o I1), (hL : LR D o I1), a5, a6, a7, a8, a9, a10, a11, a12, a13, a14, (a15 : I1 111 3 = D 339 1), a16, a17⟩ := r1
    obtain ⟨(b1 : v'.2 = c), -, (hST : ST D J), (hS0 : ST0 D J), b4, b5, b6, b7⟩ := w1
    have hW : WD D := wd q rfl
    have hD := hG.2.1
    obtain ⟨s0, s1, s2, s33, sp, s4, s76, s73⟩ := hS0
    have sp0 : ∀ k, 0 ≤ k → k < D 339 1 → J 348 (3 + 5 * k) = D 343 (4 * k) := fun k k0 k1 => by
      have := sp k 0 k0 k1 (by decide) (by decide)
      rw [Int.add_zero, Int.add_zero] at this; exact this
    have hP0 : ∀ k, 0 ≤ k → k < D 339 1 → P0 J k = (D 343 (4 * k), D 343 (4 * k + 1)) := fun k k0 k1 => by
      unfold P0; rw [sp0 k k0 k1, sp k 1 k0 k1 (by decide) (by decide)]
    have h42 : ∀ j, 0 ≤ j → j < 24 → J 342 (24 + j) = D 342 j := hST.2.2.2.2.1
    have p42 : ∀ k i, 0 ≤ k → k < D 339 1 → 0 ≤ i → i < 4 → J 342 (24 + i + 4 * k) = D 342 (4 * k + i) := fun k i k0 k1 i0 i1 => by
      rw [show 24 + i + 4 * k = 24 + (4 * k + i) by omega]; exact h42 _ (by omega) (by omega)
    have p420 : ∀ k, 0 ≤ k → k < D 339 1 → J 342 (24 + 4 * k) = D 342 (4 * k) := fun k k0 k1 => h42 _ (by omega) (by omega)
    obtain ⟨d1, d2, d3, d4, d5, d6, d7, d8, d9⟩ := id hG
    have hK : KG D J := by
      refine ⟨by omega, by omega, by omega, fun k k0 k1 => ?_, ⟨fun k j k0 k1 j0 j1 kj => ?_, fun k k0 k1 => ?_⟩, fun k k0 k1 => ?_⟩
      · rw [hP0 k k0 k1]
        have := d6 k k0 k1
        unfold inQ; dsimp only; omega
      · rw [hP0 k k0 k1, hP0 j j0 j1]
        by_cases e : k < j
        · exact d7 k j k0 e j1
        · exact fun e2 => d7 j k j0 (by omega) k1 ⟨e2.1.symm, e2.2.symm⟩
      · rw [hP0 k k0 k1]
        exact (d6 k k0 k1).2.2.2.2.2.2.2.2
      · have x := d5 k k0 k1
        have y := d6 k k0 k1
        rw [p420 k k0 k1, show 25 + 4 * k = 24 + 1 + 4 * k by omega, show 26 + 4 * k = 24 + 2 + 4 * k by omega, p42 k 1 k0 k1 (by decide) (by decide), p42 k 2 k0 k1 (by decide) (by decide), sp k 2 k0 k1 (by decide) (by decide), sp k 3 k0 k1 (by decide) (by decide), s4 k k0 (by omega)]
        omega
    have hS : StC D J 111 J := by
      refine ⟨⟨by rw [n2 _ _ (by omega), a12, s0], by rw [n2 _ _ (by omega), a13, s1], by rw [n2 _ _ (by omega), a14, s2], by rw [n2 _ _ (by omega), a15]⟩, fun k k0 k1 => ?_⟩
      have cc : ∀ j, 0 ≤ j → j < 8 → J (111 + 2 + k) j = I1 (o + 11 + 2 + k) j := fun j j0 j1 => by
        rw [n2 _ _ (by omega), show (111 : Int) + 2 + k = 113 + k by omega]; exact a16 k j k0 k1 j0 j1
      obtain ⟨e0, e1, e2, e3, e4, e5, e6⟩ := hQ.2.2.2.2.2.2.1 k k0 k1
      have e7 : I1 (o + 11 + 2 + k) 7 = 0 := by
        rw [n1 _ _ (by omega)]; exact hcw.2 _ (by omega)
      rw [cc 0 (by decide) (by decide), cc 1 (by decide) (by decide), cc 2 (by decide) (by decide), cc 3 (by decide) (by decide), cc 4 (by decide) (by decide), cc 5 (by decide) (by decide), cc 6 (by decide) (by decide), cc 7 (by decide) (by decide), e0, e1, e2, e3, e4, e5, e6, e7, sp0 k k0 k1, sp k 1 k0 k1 (by decide) (by decide), sp k 2 k0 k1 (by decide) (by decide), sp k 3 k0 k1 (by decide) (by decide), s4 k k0 (by omega), p420 k k0 k1, show 25 + 4 * k = 24 + 1 + 4 * k by omega, show 26 + 4 * k = 24 + 2 + 4 * k by omega, p42 k 1 k0 k1 (by decide) (by decide), p42 k 2 k0 k1 (by decide) (by decide)]
      exact ⟨rfl, rfl, rfl, rfl, rfl, rfl, rfl, rfl⟩
    have j1 : J 136 1 = 0 := (n2 _ _ (by omega)).trans a10
    have j5 : J 136 5 = 0 := (n2 _ _ (by omega)).trans a11
    have hP : Pst D J := by
      refine ⟨?_, by rw [j5, s76], by rw [s76]; decide, by rw [s76]; decide, fun e e1 e2 => by omega, fun e f e1 e2 e3 => by omega⟩
      rw [j1]
      exact ⟨by decide, by omega, by rw [s33]; decide, fun k w k0 k1 _ _ => by omega⟩
    refine ⟨b1.trans a1.symm, hs1, ⟨w3, z7⟩, tap b6, sml (fun j => ?_) ?_ ?_, o, p, ⟨a5, a6, by omega⟩, Or.inr ⟨D, hG, hW, hQ.f2 (fun x a b _ _ => funext fun y => n2 _ _ (by omega)) hG, fun k k0 k1 => by rw [n2 _ _ (by omega)]; exact hL k k0 k1, hST, hK, hS, hP, ?_⟩⟩
    · rw [n2 66 j (by omega), a17 j, b7 j, n1 308 j (by omega), hm.1]
    · rw [n2 64 3 (by omega), a7, b4]
    · rw [n2 64 4 (by omega), a8, b5]
    · exact ⟨by rw [n2 _ _ (by omega), a9, s73], by rw [s73]; decide, by rw [s73]; decide, fun k k0 k1 => by omega⟩
