/-! ===== the class's flight: places ===== -/
theorem c_abs {X : CX} {I R : PF} {x : Int} (hx : -1000 ≤ x ∧ x ≤ 1000) : CN X 0 mJ9_abs_0f7a4 [(0, x)] I R (fun v I' R' => v.2 = max x (-x) ∧ I' = I ∧ R' = R) := by
  refine callee_f (by decide +kernel) (Nat.le_of_ble_eq_true rfl) rfl ?_
  refine S_J9_abs_0f7a4_0 (by omega) (fun g => ?_) (fun g => ?_)
  · exact S_J9_abs_0f7a4_9 (S_J9_abs_0f7a4_10 ⟨by show x = max x (-x); omega, rfl, rfl⟩)
  · exact S_J9_abs_0f7a4_4 (S_J9_abs_0f7a4_10 ⟨by show -x = max x (-x); omega, rfl, rfl⟩)
theorem c_farFromHat {X : CX} {I R : PF} {h : Int × Int} {x y : Int} (h1 : I 127 3 = h.1) (h2 : I 127 4 = h.2) (hr : -100 ≤ h.1 ∧ h.1 ≤ 100 ∧ -100 ≤ h.2 ∧ h.2 ≤ 100) (hx : -100 ≤ x ∧ x ≤ 100) (hy : -100 ≤ y ∧ y ≤ 100) :
    CN X 1 mX1_farFromHat [(2, 127), (0, x), (0, y)] I R (fun v I' R' => v.2 = far h (x, y) ∧ I' = I ∧ R' = R) := by
  refine callee_b (by decide +kernel) (Nat.le_of_ble_eq_true rfl) rfl ?_
  refine S_X1_farFromHat_0 (d1 := 0) (by omega) (c_abs (by omega)) (fun a I1 R1 q => ?_)
  obtain ⟨(ha : a = _), rfl, rfl⟩ := q
  refine S_X1_farFromHat_9 (d1 := 0) (by omega) (c_abs (by omega)) (fun b I1 R1 q => ?_)
  obtain ⟨(hb : b = _), rfl, rfl⟩ := q
  refine S_X1_farFromHat_18 (d1 := 0) (by omega) (c_max (by unfold inR; omega) (by unfold inR; omega)) (fun z I1 R1 q => ?_)
  obtain ⟨(hz : z = _), rfl, rfl⟩ := q
  refine S_X1_farFromHat_21 ⟨?_, rfl, rfl⟩
  show z = max (max (x - h.1) (h.1 - x)) (max (y - h.2) (h.2 - y))
  omega
def ClP (n : Int) (P : Int → Int × Int) (I : PF) : Prop := ∀ p, 0 ≤ p → p < n → I 128 p = (P p).1 ∧ I 129 p = (P p).2
/-- what is taken: walls, and where a person is -/
def Tkn (D : PF) (P : Int → Int × Int) (I : PF) : Prop := ∀ x y, 0 ≤ x → x < 9 → 0 ≤ y → y < 9 → (I 130 (9 * y + x) ≠ 0 ↔ wlT D x y ∨ ∃ k, 0 ≤ k ∧ k < D 339 1 ∧ (P k).1 = x ∧ (P k).2 = y)
/-- no two stand in one place, none in a wall -/
def PDi (D : PF) (P : Int → Int × Int) : Prop := (∀ k j, 0 ≤ k → k < D 339 1 → 0 ≤ j → j < D 339 1 → k ≠ j → ¬ ((P k).1 = (P j).1 ∧ (P k).2 = (P j).2)) ∧ ∀ k, 0 ≤ k → k < D 339 1 → ¬ wlT D (P k).1 (P k).2
theorem stp_PDi {D : PF} {h : Int × Int} {P : Int → Int × Int} {p : Int} (hP : PDi D P) (hp : 0 ≤ p ∧ p < D 339 1) : PDi D (stp D h P p) := by
  by_cases c0 : stw D P h p = 0
  · have e : stp D h P p = P := by
      funext k
      unfold stp updP
      by_cases c : k = p
      · rw [if_pos c, c0, stT_0, c]
      · rw [if_neg c]
    rw [e]; exact hP
  have hN : Nr D P h p (stw D P h p - 1) := by
    unfold stw at c0 ⊢
    rcases fI_fst (Nr D P h p) 8 with ⟨a1, a2⟩ | ⟨a1, a2, a3, a4⟩
    · omega
    · rw [show fI (Nr D P h p) 8 + 1 - 1 = fI (Nr D P h p) 8 by omega]; exact a3
  have hFr := hN.1
  rw [show stw D P h p - 1 + 1 = stw D P h p by omega] at hFr
  obtain ⟨-, f2, f3⟩ := hFr
  have ep : stp D h P p p = stT (P p) (stw D P h p) := by unfold stp updP; rw [if_pos rfl]
  have ek : ∀ k, k ≠ p → stp D h P p k = P k := fun k c => by unfold stp updP; rw [if_neg c]
  refine ⟨fun k j k0 k1 j0 j1 kj => ?_, fun k k0 k1 => ?_⟩
  · by_cases ck : k = p
    · by_cases cj : j = p
      · exact absurd (ck.trans cj.symm) kj
      · rw [ck, ep, ek j cj]; exact fun c => f3 j j0 j1 cj ⟨c.1.symm, c.2.symm⟩
    · by_cases cj : j = p
      · rw [cj, ep, ek k ck]; exact f3 k k0 k1 ck
      · rw [ek k ck, ek j cj]; exact hP.1 k j k0 k1 j0 j1 kj
  · by_cases ck : k = p
    · rw [ck, ep]; exact f2
    · rw [ek k ck]; exact hP.2 k k0 k1
