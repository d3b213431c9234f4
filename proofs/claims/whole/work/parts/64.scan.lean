/-! ===== the class's scan: the token that is next ===== -/
theorem callee_f {X : CX} {d : Nat} {md : MD} {M M' : PM} {I R : PF} {Q : PV → PF → PF → Prop} {As : List PV} (hy : plainFor md.1 = true) (hlen : (lE As).length ≤ md.2.2.1) (h9' : As.all (fun v => v.1 != 9) = true) (k : PW X d M' md M 0 (lE As) [] I R M Q) : Callee X d md M M' As I R Q := by
  have h9 : ∀ v ∈ As, v.1 ≠ 9 := fun v hv => by have := List.all_eq_true.mp h9' v hv; simpa using this
  refine va_MetF (cc := md.2.1) (maxL := md.2.2.1) (ret := md.2.2.2) hy rfl ?_
  intro p e s m args below meth c s₁ B hml hv
  obtain ⟨rfl, hst, hP, hsz⟩ := hv
  have hl := lv_entry (As.map (pv X)) (n := md.2.2.1) (by rw [lE_len]; exact hlen)
  rw [lg_entry_eq]
  generalize (lg_sl (As.map (pv X)) ++ List.replicate (md.2.2.1 - (lg_sl (As.map (pv X))).length) Slot.unset).toArray = lsm at hl ⊢
  exact k p e s m _ below meth c _ ⟨B.exec, B.bytes, B.returns, hml, findClass_of_methodNamed B.named, fun w hw => atoms_spec (ws := wO md) B.pre w (List.mem_cons_of_mem _ hw), hst, B.notSynchronized, (name_of_methodNamed B.named B.method).1, Nat.le_refl _, Nat.le_refl _, Nat.le_refl _, Nat.le_refl _, hsz⟩ s.heap [] 0 0 lsm hP va_S.rf (lv_mono hl (lvL_args h9)) (Nat.zero_add _) (Nat.zero_add _)
theorem c_min {X : CX} {I R : PF} {x y : Int} (hx : inR x) (hy : inR y) : CN X 0 mJ9_min_7cf53 [(0, x), (0, y)] I R (fun v I' R' => v.2 = min x y ∧ I' = I ∧ R' = R) := by
  refine callee_f (by decide +kernel) (Nat.le_of_ble_eq_true rfl) rfl ?_
  refine S_J9_min_7cf53_0 hx hy (fun g => ?_) (fun g => ?_)
  · exact S_J9_min_7cf53_9 (S_J9_min_7cf53_10 ⟨by show y = min x y; omega, rfl, rfl⟩)
  · exact S_J9_min_7cf53_5 (S_J9_min_7cf53_10 ⟨by show x = min x y; omega, rfl, rfl⟩)
def DT (t : Int → Int) (n : Int) (I : PF) : Prop := I 65 = t ∧ I 67 1 = n ∧ 0 ≤ n ∧ n ≤ 1600 ∧ ∀ j, 0 ≤ j → j < 1600 → 0 ≤ t j ∧ t j ≤ 255
/-- the word of a code: its place among the words, 1 for any other -/
def wL (v : Int) : Nat → Int
  | 0 => 1
  | k + 1 => if sW 0 ((k + 1 : Nat) : Int) = v then ((k + 1 : Nat) : Int) else wL v k
def knd (t : Int → Int) (n : Int) (q : Int × Bool) : Int :=
  if skp t n q.1 < n then
    (if isL (t (skp t n q.1)) = true then (if q.2 = true ∧ skp t n q.1 = q.1 then 4 else 1)
    else if isD (t (skp t n q.1)) = true then (if q.2 = true ∧ skp t n q.1 = q.1 then 4 else 2) else 3)
  else 0
def kn0 (t : Int → Int) (n a : Int) : Int := if a < n then (if isL (t a) = true then 1 else if isD (t a) = true then 2 else 3) else 0
def tto (t : Int → Int) (n a : Int) : Int := if a < n then (if isL (t a) = true then run isL t n a else if isD (t a) = true then run isD t n a else a + 1) else n
def tva (t : Int → Int) (n a : Int) : Int := if a < n then (if isL (t a) = true then c6 (fun i => t (a + i)) (run isL t n a - a) else if isD (t a) = true then dv t a (min (run isD t n a - a) 4).toNat else t a) else -1
def twd (t : Int → Int) (n a : Int) : Int := if a < n then (if isL (t a) = true then (if run isL t n a - a ≤ 6 then wL (tva t n a) 37 else 1) else 1) else 1
/-- the scan's cells tell the token behind q -/
def Tok (t : Int → Int) (n : Int) (q : Int × Bool) (I R : PF) : Prop := DT t n I ∧ 0 ≤ q.1 ∧ q.1 ≤ n ∧ I 67 3 = skp t n q.1 ∧ I 67 2 = knd t n q ∧ I 67 4 = tto t n (skp t n q.1) ∧ I 67 5 = tva t n (skp t n q.1) ∧ R 67 6 = twd t n (skp t n q.1)
def sS (x y : Int) : Prop := x = 67 ∧ 2 ≤ y ∧ y ≤ 7
def sR (x y : Int) : Prop := x = 67 ∧ y = 6
theorem shp_k : ∀ t ∈ shpL, ¬ (t.1 = 67 ∧ t.2.1 = 6) ∧ ¬ (t.1 = 71 ∧ t.2.1 = 1) ∧ ¬ (t.1 = 110 ∧ t.2.1 = 2) ∧ ¬ (t.1 = 64 ∧ t.2.1 = 8) ∧ ¬ (t.1 = 64 ∧ t.2.1 = 9) ∧ ¬ (t.1 = 127 ∧ t.2.1 ≤ 2) := by decide +kernel
def mR (x y : Int) : Prop := (x = 67 ∧ y = 6) ∨ (x = 71 ∧ y = 1) ∨ (x = 110 ∧ y = 2) ∨ (x = 64 ∧ (y = 8 ∨ y = 9)) ∨ (x = 127 ∧ y ≤ 2)
theorem mR_kd {o : Int} (h : kd MF o = 8 ∨ kd MF o = 2 ∨ kd MF o = 6) : o ≠ 67 ∧ o ≠ 71 ∧ o ≠ 110 ∧ o ≠ 64 ∧ o ≠ 127 ∧ (kd MF o = 8 → o + 1 ≠ 67 ∧ o + 1 ≠ 71 ∧ o + 1 ≠ 110 ∧ o + 1 ≠ 64 ∧ o + 1 ≠ 127) := by
  have k67 : kd MF 67 = 5 := by decide +kernel
  have k71 : kd MF 71 = 3 := by decide +kernel
  have k110 : kd MF 110 = 7 := by decide +kernel
  have k64 : kd MF 64 = 9 := by decide +kernel
  have k127 : kd MF 127 = 1 := by decide +kernel
  refine ⟨fun e => ?_, fun e => ?_, fun e => ?_, fun e => ?_, fun e => ?_, fun h8 => ?_⟩
  any_goals (subst e; omega)
  have := st1 h8
  refine ⟨fun e => ?_, fun e => ?_, fun e => ?_, fun e => ?_, fun e => ?_⟩ <;> (rw [e] at this; omega)
theorem Shp.fr {R R' : PF} (h : Shp R) (g : FR mR R R') : Shp R' := by
  obtain ⟨h1, h2, h3, h4⟩ := h
  refine ⟨fun t ht => ?_, fun o ho => ?_, fun o ho => ?_, fun o ho => ?_⟩
  · have := shp_k t ht
    rw [g t.1 t.2.1 (fun c => by unfold mR at c; omega)]; exact h1 t ht
  · obtain ⟨a1, a2, a3, a4, a5, a6⟩ := mR_kd (Or.inl ho)
    have a6 := a6 ho
    obtain ⟨b1, b2⟩ := h2 o ho
    refine ⟨by rw [g o 4 (fun c => by unfold mR at c; omega)]; exact b1, fun p p0 p1 => by rw [g (o + 1) p (fun c => by unfold mR at c; omega)]; exact b2 p p0 p1⟩
  · obtain ⟨a1, a2, a3, a4, a5, a6⟩ := mR_kd (Or.inr (Or.inl ho))
    obtain ⟨b1, b2⟩ := h3 o ho
    exact ⟨by rw [g o 0 (fun c => by unfold mR at c; omega)]; exact b1, by rw [g o 1 (fun c => by unfold mR at c; omega)]; exact b2⟩
  · obtain ⟨a1, a2, a3, a4, a5, a6⟩ := mR_kd (Or.inr (Or.inr ho))
    obtain ⟨b1, b2, b3, b4, b5, b6, b7⟩ := h4 o ho
    refine ⟨?_, ?_, ?_, ?_, ?_, ?_, ?_⟩ <;> (rw [g o _ (fun c => by unfold mR at c; omega)]; assumption)
theorem sR_mR {R R' : PF} (g : FR sR R R') : FR mR R R' := g.mono (fun x y c => Or.inl c)
theorem adv_skip {X : CX} {d : Nat} {R : PF} {Q : PV → PF → PF → Prop} {x1 x2 : Int} (hs : Shp R) : ∀ (k : Nat) (I : PF), (I 67 1 - I 67 3).toNat < k → 0 ≤ I 67 3 → I 67 3 ≤ I 67 1 → I 67 1 ≤ 1600 → (∀ j, 0 ≤ j → j < 1600 → 0 ≤ I 65 j ∧ I 65 j ≤ 255) →
    PN X d mX5_advance 95 [(2, 67), (0, x1), (0, x2)] [] (u2 I 67 3 (skp (I 65) (I 67 1) (I 67 3))) R Q → PN X d mX5_advance 43 [(2, 67), (0, x1), (0, x2)] [] I R Q := by
  intro k
  induction k with
  | zero => intro I h; exact absurd h (Nat.not_lt_zero _)
  | succ k ih =>
    intro I h h0 h1 h2 hT hk
    refine S_X5_advance_43 (by omega) (by omega) (fun g => ?_) (fun g => ?_)
    · have e : skp (I 65) (I 67 1) (I 67 3) = I 67 3 := skp_n (by omega)
      rw [e, u2_self] at hk
      exact hk
    · have h7 := hT (I 67 3) (by omega) (by omega)
      have back : (I 65 (I 67 3) = 10 ∨ I 65 (I 67 3) = 32) → PN X d mX5_advance 82 [(2, 67), (0, x1), (0, x2)] [] I R Q := fun hc => by
        refine S_X5_advance_82 (ih _ ?_ ?_ ?_ ?_ ?_ ?_)
        · simp [u2] <;> omega
        · simp [u2] <;> omega
        · simp [u2] <;> omega
        · simp [u2] <;> omega
        · rw [u2_row (by decide)]; exact hT
        · rw [u2_row (by decide), u2_j (by decide), u2_at, u2_u2, ← skp_y g hc]; exact hk
      refine S_X5_advance_54 hs (by omega) (by omega) (fun g2 => back (Or.inl g2)) (fun g2 => ?_)
      refine S_X5_advance_68 hs (by omega) (by omega) (fun g3 => ?_) (fun g3 => back (Or.inr g3))
      have e : skp (I 65) (I 67 1) (I 67 3) = I 67 3 := skp_n (by omega)
      rw [e, u2_self] at hk
      exact hk
theorem adv_let {X : CX} {d : Nat} {R : PF} {Q : PV → PF → PF → Prop} {x1 x2 : Int} (hs : Shp R) : ∀ (k : Nat) (I : PF), (I 67 1 - I 67 4).toNat < k → 0 ≤ I 67 4 → I 67 4 ≤ I 67 1 → I 67 1 ≤ 1600 → (∀ j, 0 ≤ j → j < 1600 → 0 ≤ I 65 j ∧ I 65 j ≤ 255) →
    PN X d mX5_advance 238 [(2, 67), (0, x1), (0, x2)] [] (u2 I 67 4 (run isL (I 65) (I 67 1) (I 67 4))) R Q → PN X d mX5_advance 186 [(2, 67), (0, x1), (0, x2)] [] I R Q := by
  intro k
  induction k with
  | zero => intro I h; exact absurd h (Nat.not_lt_zero _)
  | succ k ih =>
    intro I h h0 h1 h2 hT hk
    have stop : ¬ (I 67 4 < I 67 1 ∧ isL (I 65 (I 67 4)) = true) → PN X d mX5_advance 238 [(2, 67), (0, x1), (0, x2)] [] I R Q := fun c => by
      have e : run isL (I 65) (I 67 1) (I 67 4) = I 67 4 := run_n c
      rw [e, u2_self] at hk
      exact hk
    refine S_X5_advance_186 (by omega) (by omega) (fun g => stop (fun c => by omega)) (fun g => ?_)
    have h7 := hT (I 67 4) (by omega) (by omega)
    refine S_X5_advance_197 hs (by omega) (by omega) (fun g2 => stop (fun c => by have := isL_iff.mp c.2; omega)) (fun g2 => ?_)
    refine S_X5_advance_211 hs (by omega) (by omega) (fun g3 => stop (fun c => by have := isL_iff.mp c.2; omega)) (fun g3 => ?_)
    refine S_X5_advance_225 (ih _ ?_ ?_ ?_ ?_ ?_ ?_)
    · simp [u2] <;> omega
    · simp [u2] <;> omega
    · simp [u2] <;> omega
    · simp [u2] <;> omega
    · rw [u2_row (by decide)]; exact hT
    · rw [u2_row (by decide), u2_j (by decide), u2_at, u2_u2, ← run_y g (isL_iff.mpr ⟨g2, g3⟩)]; exact hk
theorem adv_val {X : CX} {d : Nat} {R : PF} {Q : PV → PF → PF → Prop} {x1 x2 x4 x5 : Int} {I : PF} {t : Int → Int} {a L : Int} (e5 : x5 = x4 + 1) (hs : Shp R) (h65 : I 65 = t) (h3 : I 67 3 = a) (h4 : I 67 4 = a + L) (ha : 0 ≤ a ∧ 0 ≤ L ∧ a + L ≤ 1600) (hx : 0 ≤ x4 ∧ x4 < 6)
    (h : PN X d mX5_advance 246 [(2, 67), (0, x1), (0, x2), (9, 0), (0, x5)] [] (u2 I 67 5 (27 * I 67 5 + lt6 (fun i => t (a + i)) L x4)) R Q) : PN X d mX5_advance 246 [(2, 67), (0, x1), (0, x2), (9, 0), (0, x4)] [] I R Q := by
  subst e5
  refine S_X5_advance_246 (by omega) (fun g => by omega) (fun _ => ?_)
  refine S_X5_advance_253 (by omega) (by omega) (fun g => ?_) (fun g => ?_)
  · refine S_X5_advance_295 (S_X5_advance_296 ?_)
    have e : lt6 (fun i => t (a + i)) L x4 = 0 := if_neg (by omega)
    rw [e] at h; exact h
  · refine S_X5_advance_275 hs (by omega) (S_X5_advance_296 ?_)
    have e : lt6 (fun i => t (a + i)) L x4 = I 65 (I 67 3 + x4) - 97 + 1 := by
      unfold lt6
      rw [if_pos (by omega), h65, h3]
      show t (a + x4) - 96 = _
      omega
    rw [e] at h; exact h
theorem adv_word {X : CX} {d : Nat} {I : PF} {Q : PV → PF → PF → Prop} {x1 x2 v : Int} (h5 : I 67 5 = v) (hv : inR v) (hL : I 67 4 - I 67 3 ≤ 6) (hr : inR (I 67 4 - I 67 3)) : ∀ (k : Nat) (x : Nat) (R : PF), 37 - x < k → x ≤ 37 → R 67 6 = wL v x →
    (∀ R', R' 67 6 = wL v 37 → FR sR R R' → PN X d mX5_advance 371 [(2, 67), (0, x1), (0, x2)] [] I R' Q) → PN X d mX5_advance 309 [(2, 67), (0, x1), (0, x2), (9, 0), (0, (x : Int))] [] I R Q := by
  intro k
  induction k with
  | zero => intro x R h; exact absurd h (Nat.not_lt_zero _)
  | succ k ih =>
    intro x R h hx hR hk
    refine S_X5_advance_309 (by omega) (fun g => ?_) (fun g => ?_)
    · have : x = 37 := by omega
      subst this
      exact hk R hR FR.rf
    refine S_X5_advance_318 hr (fun g2 => by omega) (fun _ => ?_)
    have hw : ∀ y : Nat, y < 37 → inR (sW 0 ((y : Int) + 1)) := by
      have h0 : ∀ y : Nat, y < 37 → inR (sW 0 ((y : Int) + 1)) := by decide
      exact h0
    have next : ∀ s : Int, s = wL v (x + 1) → PN X d mX5_advance 362 [(2, 67), (0, x1), (0, x2), (9, 0), (0, (x : Int))] [(2, s), (2, 67)] I R Q := fun s e => by
      refine S_X5_advance_362 ?_
      have := ih (x + 1) (u2 R 67 6 s) (by omega) (by omega) (by rw [u2_at]; exact e) (fun R' r1 r2 => hk R' r1 (FR.tr (FR_u2 ⟨rfl, rfl⟩) r2))
      rw [show ((x + 1 : Nat) : Int) = (x : Int) + 1 by omega] at this
      exact this
    have ec : ((x + 1 : Nat) : Int) = (x : Int) + 1 := by omega
    refine S_X5_advance_332 ⟨by omega, by omega⟩ (by omega) (hw x (by omega)) (by rw [h5]; exact hv) (fun g3 => ?_) (fun g3 => ?_)
    · refine S_X5_advance_358 hR (next _ ?_)
      rw [wL, if_neg (by rw [ec, ← h5]; exact g3)]
    · refine S_X5_advance_349 ⟨by omega, by omega⟩ (next _ ?_)
      rw [wL, if_pos (by rw [ec, ← h5]; exact g3), ec]
theorem adv_num {X : CX} {d : Nat} {R : PF} {Q : PV → PF → PF → Prop} {x1 x2 n a : Int} {t : Int → Int} (hs : Shp R) (hn : n ≤ 1600) (hT : ∀ j, 0 ≤ j → j < 1600 → 0 ≤ t j ∧ t j ≤ 255) (ha : 0 ≤ a) : ∀ (k : Nat) (I : PF), (n - I 67 4).toNat < k → I 65 = t → I 67 1 = n → I 67 3 = a → a ≤ I 67 4 → I 67 4 ≤ n → I 67 5 = dv t a (min (I 67 4 - a) 4).toNat →
    (∀ I', I' 67 4 = run isD t n (I 67 4) → I' 67 5 = dv t a (min (I' 67 4 - a) 4).toNat → FR (fun x y => x = 67 ∧ (y = 4 ∨ y = 5)) I I' → PN X d mX5_advance 495 [(2, 67), (0, x1), (0, x2)] [] I' R Q) → PN X d mX5_advance 399 [(2, 67), (0, x1), (0, x2)] [] I R Q := by
  intro k
  induction k with
  | zero => intro I h; exact absurd h (Nat.not_lt_zero _)
  | succ k ih =>
    intro I h h65 h1 h3 h4 h4n h5 hk
    have stop : ¬ (I 67 4 < n ∧ isD (t (I 67 4)) = true) → PN X d mX5_advance 495 [(2, 67), (0, x1), (0, x2)] [] I R Q := fun c => hk I (run_n c).symm h5 FR.rf
    refine S_X5_advance_399 (by omega) (by omega) (fun g => stop (fun c => by omega)) (fun g => ?_)
    have h7 := hT (I 67 4) (by omega) (by omega)
    have h8 : I 65 (I 67 4) = t (I 67 4) := by rw [h65]
    refine S_X5_advance_410 hs (by omega) (by rw [h8]; omega) (fun g2 => stop (fun c => by have := isD_iff.mp c.2; omega)) (fun g2 => ?_)
    refine S_X5_advance_424 hs (by omega) (by rw [h8]; omega) (fun g3 => stop (fun c => by have := isD_iff.mp c.2; omega)) (fun g3 => ?_)
    rw [h8] at g2 g3
    have next : ∀ v : Int, v = dv t a (min (I 67 4 + 1 - a) 4).toNat → PN X d mX5_advance 479 [(2, 67), (0, x1), (0, x2)] [(0, v), (2, 67)] I R Q := fun v e => by
      refine S_X5_advance_479 ?_
      have e4 : (u2 I 67 5 v) 67 4 + 1 = I 67 4 + 1 := by rw [u2_j (by decide)]
      rw [e4]
      have ff : FR (fun x y => x = 67 ∧ (y = 4 ∨ y = 5)) I (u2 (u2 I 67 5 v) 67 4 (I 67 4 + 1)) := FR.tr (FR_u2 ⟨rfl, Or.inr rfl⟩) (FR_u2 ⟨rfl, Or.inl rfl⟩)
      refine ih _ (by rw [u2_at]; omega) (by rw [← h65]; funext j; exact ff 65 j (fun c => by omega)) (by rw [ff 67 1 (fun c => by omega)]; exact h1) (by rw [ff 67 3 (fun c => by omega)]; exact h3) (by rw [u2_at]; omega) (by rw [u2_at]; omega) (by rw [u2_j (by decide), u2_at, u2_at]; exact e) (fun I' i1 i2 i3 => ?_)
      refine hk I' ?_ i2 (ff.tr i3)
      rw [i1, u2_at, run_y (show I 67 4 < n by omega) (isD_iff.mpr ⟨g2, g3⟩)]
    refine S_X5_advance_438 (by omega) (fun g4 => ?_) (fun g4 => ?_)
    · refine S_X5_advance_475 (next _ ?_)
      rw [h5, show min (I 67 4 - a) 4 = 4 by omega, show min (I 67 4 + 1 - a) 4 = 4 by omega]
    · refine S_X5_advance_452 hs (by omega) (next _ ?_)
      obtain ⟨j, hj⟩ : ∃ j : Nat, I 67 4 - a = j := ⟨(I 67 4 - a).toNat, by omega⟩
      rw [h8, h5, show (min (I 67 4 - a) 4).toNat = j by omega, show (min (I 67 4 + 1 - a) 4).toNat = j + 1 by omega, dv, show a + (j : Int) = I 67 4 by omega]
