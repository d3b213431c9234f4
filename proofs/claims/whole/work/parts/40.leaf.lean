/-! ===== contracts: leaves ===== -/
theorem callee_b {X : CX} {d : Nat} {md : MD} {M M' : PM} {As : List PV} {I R : PF} {Q : PV → PF → PF → Prop} (hy : plainName md.1.cls = true) (hlen : (lE As).length ≤ md.2.2.1) (h9 : As.all (fun v => v.1 != 9) = true) (k : PW X d M' md M 0 (lE As) [] I R M Q) : Callee X d md M M' As I R Q :=
  callee_of hy hlen (fun v hv => by have := List.all_eq_true.mp h9 v hv; simpa using this) k
theorem met_mono {l : Launch} {y : MethodName} {ws : List Cond} {rm : Room} {Pc : Array Value → State → Prop} {Qc Qc' : Array Value → State → Outcome → State → Prop} {mc ms : Nat} {free : Addr → Prop} (h : Met l y ws rm Pc Qc mc ms free) (hq : ∀ a s o t, Qc a s o t → Qc' a s o t) : Met l y ws rm Pc Qc' mc ms free := by
  intro p e ha hc hk s m args below hf happ hP hK
  obtain ⟨n, o, h1, h2, h3, h4, h5⟩ := h p e ha hc hk s m args below hf happ hP hK
  exact ⟨n, o, h1, h2, h3, hq _ _ _ _ h4, h5⟩
theorem qO_mono {X : CX} {ret : Option FieldType} {M' : PM} {Q Q' : PV → PF → PF → Prop} (hq : ∀ v I' R', Q v I' R' → Q' v I' R') {a : Array Value} {s : State} {o : Outcome} {t : State} (q : qO X ret M' Q a s o t) : qO X ret M' Q' a s o t := by
  cases ret with
  | none => obtain ⟨⟨u, h1, h2, h3⟩, h4⟩ := q; exact ⟨⟨u, h1, hq _ _ _ h2, h3⟩, h4⟩
  | some f =>
    cases f with
    | long => obtain ⟨⟨r, u, h1, ⟨z, h5, h2⟩, h3⟩, h4⟩ := q; exact ⟨⟨r, u, h1, ⟨z, h5, hq _ _ _ h2⟩, h3⟩, h4⟩
    | object c => obtain ⟨⟨r, u, h1, ⟨z, h2⟩, h3⟩, h4⟩ := q; exact ⟨⟨r, u, h1, ⟨z, hq _ _ _ h2⟩, h3⟩, h4⟩
    | _ => obtain ⟨⟨r, u, h1, ⟨z, h5, h2⟩, h3⟩, h4⟩ := q; exact ⟨⟨r, u, h1, ⟨z, h5, hq _ _ _ h2⟩, h3⟩, h4⟩
theorem Callee.mono {X : CX} {d : Nat} {md : MD} {M M' : PM} {As : List PV} {I R : PF} {Q Q' : PV → PF → PF → Prop} (h : Callee X d md M M' As I R Q) (hq : ∀ v I' R', Q v I' R' → Q' v I' R') : Callee X d md M M' As I R Q' := by
  unfold Callee at *
  refine met_mono h (fun a s o t q => ?_)
  exact qO_mono hq q
/-- 1 where it holds, 0 where not -/
noncomputable def bi (c : Prop) : Int := @ite _ c (Classical.propDecidable c) 1 0
theorem bi_t {c : Prop} (h : c) : bi c = 1 := @if_pos c (Classical.propDecidable c) h Int 1 0
theorem bi_f {c : Prop} (h : ¬ c) : bi c = 0 := @if_neg c (Classical.propDecidable c) h Int 1 0
theorem bi_01 (c : Prop) : bi c = 0 ∨ bi c = 1 := by
  by_cases h : c
  · exact Or.inr (bi_t h)
  · exact Or.inl (bi_f h)
theorem bi_1 {c : Prop} (h : bi c ≠ 0) : c := by
  by_cases g : c
  · exact g
  · exact absurd (bi_f g) h
theorem bi_0 {c : Prop} (h : bi c = 0) : ¬ c := fun g => by rw [bi_t g] at h; omega
theorem bi_r (c : Prop) : 0 ≤ bi c ∧ bi c ≤ 1 := by have := bi_01 c; omega
theorem bi_congr {c c' : Prop} (h : c ↔ c') : bi c = bi c' := by rw [propext h]
abbrev inR (x : Int) : Prop := -2147483648 ≤ x ∧ x < 2147483648
/-! writes and reads -/
theorem u2_row {f : PF} {o j v a : Int} (h : a ≠ o) : u2 f o j v a = f a := funext fun b => u2_o h
theorem u2_u2 (f : PF) (o j v w : Int) : u2 (u2 f o j v) o j w = u2 f o j w := by
  funext a b
  unfold u2
  by_cases h : a = o ∧ b = j
  · rw [if_pos h, if_pos h]
  · rw [if_neg h, if_neg h, if_neg h]
theorem u2_self (f : PF) (o j : Int) : u2 f o j (f o j) = f := by
  funext a b
  unfold u2
  by_cases h : a = o ∧ b = j
  · rw [if_pos h, h.1, h.2]
  · rw [if_neg h]
theorem u2_eq {f : PF} {o j v : Int} (h : f o j = v) : u2 f o j v = f := by rw [← h]; exact u2_self f o j
theorem u2_sw (f : PF) {o j v p k w : Int} (h : o ≠ p ∨ j ≠ k) : u2 (u2 f o j v) p k w = u2 (u2 f p k w) o j v := by
  funext a b
  unfold u2
  by_cases h1 : a = o ∧ b = j <;> by_cases h2 : a = p ∧ b = k <;> simp only [h1, h2, if_true, if_false]
  · exfalso; omega
  all_goals simp_all
theorem c_isLetter {X : CX} {I R : PF} {x : Int} (hx : inR x) : CN X 1 mX11_isLetter [(0, x)] I R (fun v I' R' => v.2 = bi (97 ≤ x ∧ x ≤ 122) ∧ I' = I ∧ R' = R) := by
  refine callee_b (by decide +kernel) (Nat.le_of_ble_eq_true rfl) rfl ?_
  refine S_X11_isLetter_0 (by omega) (fun g0 => ?_) (fun g0 => ?_)
  · refine S_X11_isLetter_16  ?_
    refine S_X11_isLetter_17 (by omega) ?_
    exact ⟨by first | exact (bi_t (by omega)).symm | exact (bi_f (by omega)).symm, rfl, rfl⟩
  · refine S_X11_isLetter_6 (by omega) (fun g6 => ?_) (fun g6 => ?_)
    · refine S_X11_isLetter_16  ?_
      refine S_X11_isLetter_17 (by omega) ?_
      exact ⟨by first | exact (bi_t (by omega)).symm | exact (bi_f (by omega)).symm, rfl, rfl⟩
    · refine S_X11_isLetter_12  ?_
      refine S_X11_isLetter_17 (by omega) ?_
      exact ⟨by first | exact (bi_t (by omega)).symm | exact (bi_f (by omega)).symm, rfl, rfl⟩
theorem c_isDigit {X : CX} {I R : PF} {x : Int} (hx : inR x) : CN X 1 mX11_isDigit [(0, x)] I R (fun v I' R' => v.2 = bi (48 ≤ x ∧ x ≤ 57) ∧ I' = I ∧ R' = R) := by
  refine callee_b (by decide +kernel) (Nat.le_of_ble_eq_true rfl) rfl ?_
  refine S_X11_isDigit_0 (by omega) (fun g0 => ?_) (fun g0 => ?_)
  · refine S_X11_isDigit_16  ?_
    refine S_X11_isDigit_17 (by omega) ?_
    exact ⟨by first | exact (bi_t (by omega)).symm | exact (bi_f (by omega)).symm, rfl, rfl⟩
  · refine S_X11_isDigit_6 (by omega) (fun g6 => ?_) (fun g6 => ?_)
    · refine S_X11_isDigit_16  ?_
      refine S_X11_isDigit_17 (by omega) ?_
      exact ⟨by first | exact (bi_t (by omega)).symm | exact (bi_f (by omega)).symm, rfl, rfl⟩
    · refine S_X11_isDigit_12  ?_
      refine S_X11_isDigit_17 (by omega) ?_
      exact ⟨by first | exact (bi_t (by omega)).symm | exact (bi_f (by omega)).symm, rfl, rfl⟩
theorem c_isIn {X : CX} {I R : PF} {x y z : Int} (hx : inR x) (hy : inR y) (hz : inR z) : CN X 1 mX11_isIn [(1, x), (1, y), (1, z)] I R (fun v I' R' => v.2 = bi (y ≤ x ∧ x ≤ z) ∧ I' = I ∧ R' = R) := by
  refine callee_b (by decide +kernel) (Nat.le_of_ble_eq_true rfl) rfl ?_
  refine S_X11_isIn_0 (by omega) (by omega) (fun g0 => ?_) (fun g0 => ?_)
  · refine S_X11_isIn_17  ?_
    refine S_X11_isIn_18 (by omega) ?_
    exact ⟨by first | exact (bi_t (by omega)).symm | exact (bi_f (by omega)).symm, rfl, rfl⟩
  · refine S_X11_isIn_6 (by omega) (by omega) (fun g6 => ?_) (fun g6 => ?_)
    · refine S_X11_isIn_17  ?_
      refine S_X11_isIn_18 (by omega) ?_
      exact ⟨by first | exact (bi_t (by omega)).symm | exact (bi_f (by omega)).symm, rfl, rfl⟩
    · refine S_X11_isIn_13  ?_
      refine S_X11_isIn_18 (by omega) ?_
      exact ⟨by first | exact (bi_t (by omega)).symm | exact (bi_f (by omega)).symm, rfl, rfl⟩
theorem c_fail {X : CX} {I R : PF} {x y : Int} (hb : inR (I 306 5)) : CN X 1 mX11_fail [(2, 306), (0, x), (0, y)] I R (fun _ I' R' => I' = (if I 306 5 = 0 then u2 (u2 I 306 5 x) 306 6 y else I) ∧ R' = R) := by
  refine callee_b (by decide +kernel) (Nat.le_of_ble_eq_true rfl) rfl ?_
  refine S_X11_fail_0 (by omega) (fun g0 => ?_) (fun g0 => ?_)
  · refine S_X11_fail_8  ?_
    exact ⟨by first | rw [if_pos (by assumption)] | rw [if_neg (by assumption)], rfl⟩
  · refine S_X11_fail_7  ?_
    exact ⟨by first | rw [if_pos (by assumption)] | rw [if_neg (by assumption)], rfl⟩
