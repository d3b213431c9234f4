/-! ===== contracts: leaves ===== -/
theorem callee_b {X : CX} {d : Nat} {md : MD} {M M' : PM} {As : List PV} {I R : PF} {Q : PV → PF → PF → Prop} (hy : plainName md.1.cls = true) (hlen : (lE As).length ≤ md.2.2.1) (h9 : As.all (fun v => v.1 != 9) = true) (k : PW X d M' md M 0 (lE As) [] I R M Q) : Callee X d md M M' As I R Q :=
  callee_of hy hlen (fun v hv => by have := List.all_eq_true.mp h9 v hv; simpa using this) k
def bi (c : Prop) [Decidable c] : Int := if c then 1 else 0
theorem bi_t {c : Prop} [Decidable c] (h : c) : bi c = 1 := if_pos h
theorem bi_f {c : Prop} [Decidable c] (h : ¬ c) : bi c = 0 := if_neg h
theorem bi_01 (c : Prop) [Decidable c] : bi c = 0 ∨ bi c = 1 := by
  by_cases h : c
  · exact Or.inr (bi_t h)
  · exact Or.inl (bi_f h)
theorem bi_1 {c : Prop} [Decidable c] (h : bi c ≠ 0) : c := by
  by_cases g : c
  · exact g
  · exact absurd (bi_f g) h
theorem bi_0 {c : Prop} [Decidable c] (h : bi c = 0) : ¬ c := fun g => by rw [bi_t g] at h; omega
abbrev inR (x : Int) : Prop := -2147483648 ≤ x ∧ x < 2147483648
theorem c_isLetter {X : CX} {I R : PF} {x : Int} (hx : inR x) : CN X 1 mX11_isLetter [(0, x)] I R (fun v I' R' => v.2 = bi (97 ≤ x ∧ x ≤ 122) ∧ I' = I ∧ R' = R) := by
  refine callee_b (by decide +kernel) (by decide) rfl ?_
  refine S_X11_isLetter_0 (by omega) (fun g0 => ?_) (fun g0 => ?_)
  · refine S_X11_isLetter_16  ?_
    refine S_X11_isLetter_17 (by omega) ?_
    exact ⟨by first | exact (bi_t (by omega)).symm | exact (bi_f (by omega)).symm, rfl, rfl⟩
  · refine S_X11_isLetter_6 (by omega) (fun g6 => ?_) (fun g6 => ?_)
    · refine S_X11_isLetter_16  ?_
      refine S_X11_isLetter_17 (by omega) ?_
      exact ⟨by first | exact (bi_t (by omega)).symm | exact (bi_f (by omega)).symm, rfl, rfl⟩
    · refine S_X11_isLetter_12  ?_
      refine S_X11_isLetter_17 (by omega) ?_
      exact ⟨by first | exact (bi_t (by omega)).symm | exact (bi_f (by omega)).symm, rfl, rfl⟩
theorem c_isDigit {X : CX} {I R : PF} {x : Int} (hx : inR x) : CN X 1 mX11_isDigit [(0, x)] I R (fun v I' R' => v.2 = bi (48 ≤ x ∧ x ≤ 57) ∧ I' = I ∧ R' = R) := by
  refine callee_b (by decide +kernel) (by decide) rfl ?_
  refine S_X11_isDigit_0 (by omega) (fun g0 => ?_) (fun g0 => ?_)
  · refine S_X11_isDigit_16  ?_
    refine S_X11_isDigit_17 (by omega) ?_
    exact ⟨by first | exact (bi_t (by omega)).symm | exact (bi_f (by omega)).symm, rfl, rfl⟩
  · refine S_X11_isDigit_6 (by omega) (fun g6 => ?_) (fun g6 => ?_)
    · refine S_X11_isDigit_16  ?_
      refine S_X11_isDigit_17 (by omega) ?_
      exact ⟨by first | exact (bi_t (by omega)).symm | exact (bi_f (by omega)).symm, rfl, rfl⟩
    · refine S_X11_isDigit_12  ?_
      refine S_X11_isDigit_17 (by omega) ?_
      exact ⟨by first | exact (bi_t (by omega)).symm | exact (bi_f (by omega)).symm, rfl, rfl⟩
theorem c_isIn {X : CX} {I R : PF} {x y z : Int} (hx : inR x) (hy : inR y) (hz : inR z) : CN X 1 mX11_isIn [(1, x), (1, y), (1, z)] I R (fun v I' R' => v.2 = bi (y ≤ x ∧ x ≤ z) ∧ I' = I ∧ R' = R) := by
  refine callee_b (by decide +kernel) (by decide) rfl ?_
  refine S_X11_isIn_0 (by omega) (by omega) (fun g0 => ?_) (fun g0 => ?_)
  · refine S_X11_isIn_17  ?_
    refine S_X11_isIn_18 (by omega) ?_
    exact ⟨by first | exact (bi_t (by omega)).symm | exact (bi_f (by omega)).symm, rfl, rfl⟩
  · refine S_X11_isIn_6 (by omega) (by omega) (fun g6 => ?_) (fun g6 => ?_)
    · refine S_X11_isIn_17  ?_
      refine S_X11_isIn_18 (by omega) ?_
      exact ⟨by first | exact (bi_t (by omega)).symm | exact (bi_f (by omega)).symm, rfl, rfl⟩
    · refine S_X11_isIn_13  ?_
      refine S_X11_isIn_18 (by omega) ?_
      exact ⟨by first | exact (bi_t (by omega)).symm | exact (bi_f (by omega)).symm, rfl, rfl⟩
