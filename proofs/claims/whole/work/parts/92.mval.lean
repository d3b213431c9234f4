/-! ===== the model's codes run ===== -/
theorem c_qClip {X : CX} {I R : PF} {v : Int} (h : mid v) : CN X 0 mX11_qClip [(1, v)] I R (fun u I' R' => u.2 = clp v ∧ I' = I ∧ R' = R) := by
  refine callee_b (by decide +kernel) (Nat.le_of_ble_eq_true rfl) rfl ?_
  unfold mid at h
  refine S_X11_qClip_0 (by omega) (fun g => ?_) (fun g => ?_)
  · refine S_X11_qClip_14 (by omega) (fun g1 => ?_) (fun g1 => ?_)
    · exact S_X11_qClip_28 (S_X11_qClip_29 ⟨by show v = clp v; unfold clp; omega, rfl, rfl⟩)
    · exact S_X11_qClip_22 (S_X11_qClip_29 ⟨by show -1000000 = clp v; unfold clp; omega, rfl, rfl⟩)
  · exact S_X11_qClip_8 (S_X11_qClip_29 ⟨by show 1000000 = clp v; unfold clp; omega, rfl, rfl⟩)
theorem c_qFloor {X : CX} {I R : PF} {a b : Int} (ha : bd a) (hb : bd b) : CN X 0 mX11_qFloor [(1, a), (1, b)] I R (fun v I' R' => v.2 = (if b = 0 then 0 else a.fdiv b) ∧ I' = I ∧ R' = R) := by
  refine callee_b (by decide +kernel) (Nat.le_of_ble_eq_true rfl) rfl ?_
  have a8 : in8 a := by unfold bd at ha; unfold in8; omega
  have b8 : in8 b := by unfold bd at hb; unfold in8; omega
  have hmb : (a.tmod b).natAbs ≤ a.natAbs := by rw [Int.natAbs_tmod]; exact Nat.mod_le _ _
  refine S_X11_qFloor_0 b8 (fun h0 => ?_) (fun g => ?_)
  rotate_left
  · exact S_X11_qFloor_6 ⟨by show (0 : Int) = _; rw [if_pos g], rfl, rfl⟩
  have hf := fdt (a := a) h0
  have fin : ∀ v, v = a.fdiv b → PN X 0 mX11_qFloor 55 [] [(1, v)] I R (fun v I' R' => v.2 = (if b = 0 then 0 else a.fdiv b) ∧ I' = I ∧ R' = R) := fun v hv => S_X11_qFloor_55 ⟨by show v = _; rw [if_neg h0]; exact hv, rfl, rfl⟩
  refine S_X11_qFloor_8 h0 a8 b8 (by unfold bd at ha; generalize a.tmod b = m at hmb; omega) (fun g => ?_) (fun g => ?_)
  · exact S_X11_qFloor_53 (fin _ (by rw [hf, if_pos (Int.dvd_of_tmod_eq_zero g)]))
  · have nd : ¬ b ∣ a := fun c => g (Int.tmod_eq_zero_of_dvd c)
    rw [if_neg nd] at hf
    have e1 : ∀ o1 o2, (o1 = o2 → ¬ (a < 0 ↔ ¬ (b < 0))) → (o1 ≠ o2 → (a < 0 ↔ ¬ (b < 0))) → inR o1 → inR o2 → PN X 0 mX11_qFloor 43 [(9, 0), (9, 0), (9, 0), (9, 0), (1, a.tdiv b)] [(0, o2), (0, o1)] I R (fun v I' R' => v.2 = (if b = 0 then 0 else a.fdiv b) ∧ I' = I ∧ R' = R) := fun o1 o2 h1 h2 i1 i2 => by
      refine S_X11_qFloor_43 i1 i2 (fun c => ?_) (fun c => ?_)
      · exact S_X11_qFloor_53 (fin _ (by rw [hf, if_neg (h1 c)]))
      · exact S_X11_qFloor_46 (fin _ (by rw [hf, if_pos (h2 c)]))
    refine S_X11_qFloor_21 a8 (fun ga => ?_) (fun ga => ?_)
    · refine S_X11_qFloor_31 (S_X11_qFloor_32 b8 (fun gb => ?_) (fun gb => ?_))
      · exact S_X11_qFloor_42 (e1 0 0 (fun _ => by omega) (fun c => absurd rfl c) (by decide) (by decide))
      · exact S_X11_qFloor_38 (e1 0 1 (fun c => by omega) (fun _ => by omega) (by decide) (by decide))
    · refine S_X11_qFloor_27 (S_X11_qFloor_32 b8 (fun gb => ?_) (fun gb => ?_))
      · exact S_X11_qFloor_42 (e1 1 0 (fun c => by omega) (fun _ => by omega) (by decide) (by decide))
      · exact S_X11_qFloor_38 (e1 1 1 (fun _ => by omega) (fun c => absurd rfl c) (by decide) (by decide))
def mPi (x y : Int) : Prop := x = 381 ∨ (x = 306 ∧ y = 110)
theorem c_qPuts {X : CX} {I R : PF} {v : Int} {L : List Int} (hs : Shp R) (hS : Stk I 381 L (I 306 110)) (hl : L.length < 1700) : CN X 0 mX11_qPuts [(2, 306), (1, v)] I R (fun _ I' R' => Stk I' 381 (v :: L) (I' 306 110) ∧ FR mPi I I' ∧ R' = R) := by
  refine callee_b (by decide +kernel) (Nat.le_of_ble_eq_true rfl) rfl ?_
  have := hS.len
  refine S_X11_qPuts_0 hs (by omega) ⟨?_, (FR_u2 (Or.inl rfl)).tr (FR_u2 (Or.inr ⟨rfl, rfl⟩)), rfl⟩
  rw [u2_at, u2_o (by decide)]
  exact hS.push.fr (fun i _ _ => u2_o (by decide))
theorem c_qJoins {X : CX} {I R : PF} {c a b : Int} {L : List Int} (hs : Shp R) (hS : Stk I 381 (b :: a :: L) (I 306 110)) (hl : L.length < 1600) (hc : 1 ≤ c ∧ c ≤ 11) (ha : bd a) (hb : bd b) (h1 : 10 ≤ c → b01 a ∧ b01 b) : CN X 1 mX11_qJoins [(2, 306), (0, c)] I R (fun _ I' R' => Stk I' 381 (jn c a b :: L) (I' 306 110) ∧ FR mPi I I' ∧ R' = R) := by
  refine callee_b (by decide +kernel) (Nat.le_of_ble_eq_true rfl) rfl ?_
  have a8 : in8 a := by unfold bd at ha; unfold in8; omega
  have b8 : in8 b := by unfold bd at hb; unfold in8; omega
  have hw : c = 10 ∨ c = 11 → b01 a ∧ b01 b := fun d => h1 (by omega)
  have hlen := hS.len
  simp only [List.length_cons] at hlen
  have eb : I 381 (I 306 110 - 1) = b := hS.1
  have ea : I 381 (I 306 110 - 2) = a := by rw [show I 306 110 - 2 = I 306 110 - 1 - 1 by omega]; exact hS.2.1
  have hS2 : Stk (u2 I 306 110 (I 306 110 - 2)) 381 L (u2 I 306 110 (I 306 110 - 2) 306 110) := by
    rw [u2_at, show I 306 110 - 2 = I 306 110 - 1 - 1 by omega]
    exact hS.2.2.fr (fun i _ _ => u2_o (by decide))
  have f2 : FR mPi I (u2 I 306 110 (I 306 110 - 2)) := FR_u2 (Or.inr ⟨rfl, rfl⟩)
  have fin : ∀ v I', v = jn c a b → (Stk I' 381 (v :: L) (I' 306 110) ∧ FR mPi (u2 I 306 110 (I 306 110 - 2)) I' ∧ R = R) → (Stk I' 381 (jn c a b :: L) (I' 306 110) ∧ FR mPi I I' ∧ R = R) := fun v I' hv h => ⟨by rw [← hv]; exact h.1, f2.tr h.2.1, rfl⟩
  refine S_X11_qJoins_0 hs (by omega) (by omega) (by omega) (fun g => ?_) (fun g => ?_) (fun g => ?_) (fun g => ?_) (fun g => ?_) (fun g => ?_) (fun g => ?_) (fun g => ?_) (fun g => ?_) (fun g => ?_) (fun g => ?_)
  all_goals rw [ea, eb]
  all_goals generalize u2 I 306 110 (I 306 110 - 2) = J at hS2 f2 fin
  all_goals have pu : ∀ v, CN X 0 mX11_qPuts [(2, 306), (1, v)] J R (fun _ I' R' => Stk I' 381 (v :: L) (I' 306 110) ∧ FR mPi J I' ∧ R' = R) := fun v => c_qPuts hs hS2 (by omega)
  · subst g
    refine S_X11_qJoins_92 (d1 := 0) (by omega) (c_qClip (by unfold bd at ha hb; unfold mid; omega)) (fun z I1 R1 p => ?_)
    obtain ⟨(hz : z = _), rfl, rfl⟩ := p
    refine S_X11_qJoins_100 (d1 := 0) (by omega) (pu z) (fun u I2 R2 p => ?_)
    obtain ⟨p1, p2, rfl⟩ := p
    exact S_X11_qJoins_103 (S_X11_qJoins_273 (fin z I2 hz ⟨p1, p2, rfl⟩))
  · subst g
    refine S_X11_qJoins_106 (d1 := 0) (by omega) (c_qClip (by unfold bd at ha hb; unfold mid; omega)) (fun z I1 R1 p => ?_)
    obtain ⟨(hz : z = _), rfl, rfl⟩ := p
    refine S_X11_qJoins_114 (d1 := 0) (by omega) (pu z) (fun u I2 R2 p => ?_)
    obtain ⟨p1, p2, rfl⟩ := p
    exact S_X11_qJoins_117 (S_X11_qJoins_273 (fin z I2 hz ⟨p1, p2, rfl⟩))
  · subst g
    refine S_X11_qJoins_120 (d1 := 0) (by omega) (c_qClip (mul_mid ha hb)) (fun z I1 R1 p => ?_)
    obtain ⟨(hz : z = _), rfl, rfl⟩ := p
    refine S_X11_qJoins_128 (d1 := 0) (by omega) (pu z) (fun u I2 R2 p => ?_)
    obtain ⟨p1, p2, rfl⟩ := p
    exact S_X11_qJoins_131 (S_X11_qJoins_273 (fin z I2 hz ⟨p1, p2, rfl⟩))
  · subst g
    refine S_X11_qJoins_134 (d1 := 0) (by omega) (c_qFloor ha hb) (fun z I1 R1 p => ?_)
    obtain ⟨(hz : z = _), rfl, rfl⟩ := p
    refine S_X11_qJoins_141 (d1 := 0) (by omega) (pu z) (fun u I2 R2 p => ?_)
    obtain ⟨p1, p2, rfl⟩ := p
    exact S_X11_qJoins_144 (S_X11_qJoins_273 (fin z I2 hz ⟨p1, p2, rfl⟩))
  · subst g
    have t : ∀ v, v = min a b → PN X 1 mX11_qJoins 161 [] [(1, v), (2, 306)] J R (fun _ I' R' => Stk I' 381 (jn 5 a b :: L) (I' 306 110) ∧ FR mPi I I' ∧ R' = R) := fun v hv => by
      refine S_X11_qJoins_161 (d1 := 0) (by omega) (pu v) (fun u I2 R2 p => ?_)
      obtain ⟨p1, p2, rfl⟩ := p
      exact S_X11_qJoins_164 (S_X11_qJoins_273 (fin v I2 hv ⟨p1, p2, rfl⟩))
    refine S_X11_qJoins_147 a8 b8 (fun g => ?_) (fun g => ?_)
    · exact S_X11_qJoins_160 (t b (by omega))
    · exact S_X11_qJoins_155 (t a (by omega))
  · subst g
    have t : ∀ v, v = max a b → PN X 1 mX11_qJoins 181 [] [(1, v), (2, 306)] J R (fun _ I' R' => Stk I' 381 (jn 6 a b :: L) (I' 306 110) ∧ FR mPi I I' ∧ R' = R) := fun v hv => by
      refine S_X11_qJoins_181 (d1 := 0) (by omega) (pu v) (fun u I2 R2 p => ?_)
      obtain ⟨p1, p2, rfl⟩ := p
      exact S_X11_qJoins_184 (S_X11_qJoins_273 (fin v I2 hv ⟨p1, p2, rfl⟩))
    refine S_X11_qJoins_167 a8 b8 (fun g => ?_) (fun g => ?_)
    · exact S_X11_qJoins_180 (t b (by omega))
    · exact S_X11_qJoins_175 (t a (by omega))
  · subst g
    have t : ∀ v, v = (if a < b then 1 else 0) → PN X 1 mX11_qJoins 200 [] [(1, v), (2, 306)] J R (fun _ I' R' => Stk I' 381 (jn 7 a b :: L) (I' 306 110) ∧ FR mPi I I' ∧ R' = R) := fun v hv => by
      refine S_X11_qJoins_200 (d1 := 0) (by omega) (pu v) (fun u I2 R2 p => ?_)
      obtain ⟨p1, p2, rfl⟩ := p
      exact S_X11_qJoins_203 (S_X11_qJoins_273 (fin v I2 hv ⟨p1, p2, rfl⟩))
    refine S_X11_qJoins_187 a8 b8 (fun g => ?_) (fun g => ?_)
    · exact S_X11_qJoins_199 (t 0 (by rw [if_neg (by omega)]))
    · exact S_X11_qJoins_195 (t 1 (by rw [if_pos g]))
  · subst g
    have t : ∀ v, v = (if b < a then 1 else 0) → PN X 1 mX11_qJoins 219 [] [(1, v), (2, 306)] J R (fun _ I' R' => Stk I' 381 (jn 8 a b :: L) (I' 306 110) ∧ FR mPi I I' ∧ R' = R) := fun v hv => by
      refine S_X11_qJoins_219 (d1 := 0) (by omega) (pu v) (fun u I2 R2 p => ?_)
      obtain ⟨p1, p2, rfl⟩ := p
      exact S_X11_qJoins_222 (S_X11_qJoins_273 (fin v I2 hv ⟨p1, p2, rfl⟩))
    refine S_X11_qJoins_206 a8 b8 (fun g => ?_) (fun g => ?_)
    · exact S_X11_qJoins_218 (t 0 (by rw [if_neg (by omega)]))
    · exact S_X11_qJoins_214 (t 1 (by rw [if_pos g]))
  · subst g
    have t : ∀ v, v = (if a = b then 1 else 0) → PN X 1 mX11_qJoins 238 [] [(1, v), (2, 306)] J R (fun _ I' R' => Stk I' 381 (jn 9 a b :: L) (I' 306 110) ∧ FR mPi I I' ∧ R' = R) := fun v hv => by
      refine S_X11_qJoins_238 (d1 := 0) (by omega) (pu v) (fun u I2 R2 p => ?_)
      obtain ⟨p1, p2, rfl⟩ := p
      exact S_X11_qJoins_241 (S_X11_qJoins_273 (fin v I2 hv ⟨p1, p2, rfl⟩))
    refine S_X11_qJoins_225 a8 b8 (fun g => ?_) (fun g => ?_)
    · exact S_X11_qJoins_237 (t 0 (by rw [if_neg g]))
    · exact S_X11_qJoins_233 (t 1 (by rw [if_pos g]))
  · subst g
    refine S_X11_qJoins_244 (d1 := 0) (by omega) (pu (a * b)) (fun u I2 R2 p => ?_)
    obtain ⟨p1, p2, rfl⟩ := p
    exact S_X11_qJoins_252 (S_X11_qJoins_273 (fin (a * b) I2 rfl ⟨p1, p2, rfl⟩))
  · obtain rfl : c = 11 := by omega
    have t : ∀ v, v = (if 0 < a + b then 1 else 0) → PN X 1 mX11_qJoins 270 [] [(1, v), (2, 306)] J R (fun _ I' R' => Stk I' 381 (jn 11 a b :: L) (I' 306 110) ∧ FR mPi I I' ∧ R' = R) := fun v hv => by
      refine S_X11_qJoins_270 (d1 := 0) (by omega) (pu v) (fun u I2 R2 p => ?_)
      obtain ⟨p1, p2, rfl⟩ := p
      exact S_X11_qJoins_273 (fin v I2 hv ⟨p1, p2, rfl⟩)
    refine S_X11_qJoins_255 (by unfold bd at ha hb; omega) (fun g => ?_) (fun g => ?_)
    · exact S_X11_qJoins_269 (t 0 (by rw [if_neg (by omega)]))
    · exact S_X11_qJoins_265 (t 1 (by rw [if_pos g]))
/-- what part k of a formula is for person i -/
def mpt (I : PF) (i k : Int) : Int := if k = 0 then I 306 61 else if k = 1 then I 306 62 else if k = 2 then I 342 (24 + 4 * i) else if k = 3 then I 342 (25 + 4 * i) else if k = 4 then I 348 (3 + 5 * i + 4) else if k = 5 then (if I 348 1 = i then I 348 2 else 0) else if k = 6 then i else if k = 7 then I 348 (3 + 5 * i) else if k = 8 then I 348 (3 + 5 * i + 1) else if k = 9 then I 348 (3 + 5 * i + 3) else I 350 i
theorem c_qPartOf {X : CX} {I R : PF} {i k : Int} (hs : Shp R) (hk : 0 ≤ k ∧ k ≤ 10) (hi : 0 ≤ i ∧ i < 6) (hr : inR (mpt I i k)) (h1 : inR (I 348 1)) : CN X 1 mX11_qPartOf [(2, 306), (0, k), (0, i)] I R (fun v I' R' => v.2 = mpt I i k ∧ I' = I ∧ R' = R) := by
  refine callee_b (by decide +kernel) (Nat.le_of_ble_eq_true rfl) rfl ?_
  refine S_X11_qPartOf_0 (by omega) (fun g => ?_) (fun g => ?_) (fun g => ?_) (fun g => ?_) (fun g => ?_) (fun g => ?_) (fun g => ?_) (fun g => ?_) (fun g => ?_) (fun g => ?_) (fun g => ?_)
  · subst g; exact S_X11_qPartOf_56 hr ⟨rfl, rfl, rfl⟩
  · subst g; exact S_X11_qPartOf_62 hr ⟨rfl, rfl, rfl⟩
  · subst g; exact S_X11_qPartOf_68 hs (by omega) hr ⟨rfl, rfl, rfl⟩
  · subst g; exact S_X11_qPartOf_81 hs (by omega) hr ⟨rfl, rfl, rfl⟩
  · subst g
    refine S_X11_qPartOf_94 (d1 := 0) (by omega) (callee_b (Q := fun v I' R' => v.2 = I 348 (3 + 5 * i + 4) ∧ I' = I ∧ R' = R) (by decide +kernel) (Nat.le_of_ble_eq_true rfl) rfl (S_X11_woreBy_0 hs (by omega) ⟨rfl, rfl, rfl⟩)) (fun z I1 R1 p => ?_)
    obtain ⟨(hz : z = _), rfl, rfl⟩ := p
    subst hz
    exact S_X11_qPartOf_99 hr ⟨rfl, rfl, rfl⟩
  · subst g
    refine S_X11_qPartOf_101 (d1 := 0) (by omega) (callee_b (Q := fun v I' R' => v.2 = (if I 348 1 = i then I 348 2 else 0) ∧ I' = I ∧ R' = R) (by decide +kernel) (Nat.le_of_ble_eq_true rfl) rfl (S_X11_termsOf_0 hs h1 (by omega) (fun g => ?_) (fun g => ?_))) (fun z I1 R1 p => ?_)
    · exact S_X11_termsOf_19 (S_X11_termsOf_20 ⟨by show (0 : Int) = _; rw [if_neg g], rfl, rfl⟩)
    · exact S_X11_termsOf_10 hs (S_X11_termsOf_20 ⟨by show I 348 2 = _; rw [if_pos g], rfl, rfl⟩)
    obtain ⟨(hz : z = _), rfl, rfl⟩ := p
    subst hz
    exact S_X11_qPartOf_106 hr ⟨rfl, rfl, rfl⟩
  · subst g; exact S_X11_qPartOf_108 hr ⟨rfl, rfl, rfl⟩
  · subst g
    refine S_X11_qPartOf_111 (d1 := 0) (by omega) (callee_b (Q := fun v I' R' => v.2 = I 348 (3 + 5 * i) ∧ I' = I ∧ R' = R) (by decide +kernel) (Nat.le_of_ble_eq_true rfl) rfl (S_X11_columnOf_0 hs (by omega) ⟨rfl, rfl, rfl⟩)) (fun z I1 R1 p => ?_)
    obtain ⟨(hz : z = _), rfl, rfl⟩ := p
    subst hz
    exact S_X11_qPartOf_116 hr ⟨rfl, rfl, rfl⟩
  · subst g
    refine S_X11_qPartOf_118 (d1 := 0) (by omega) (callee_b (Q := fun v I' R' => v.2 = I 348 (3 + 5 * i + 1) ∧ I' = I ∧ R' = R) (by decide +kernel) (Nat.le_of_ble_eq_true rfl) rfl (S_X11_rowOf_0 hs (by omega) ⟨rfl, rfl, rfl⟩)) (fun z I1 R1 p => ?_)
    obtain ⟨(hz : z = _), rfl, rfl⟩ := p
    subst hz
    exact S_X11_qPartOf_123 hr ⟨rfl, rfl, rfl⟩
  · subst g; exact S_X11_qPartOf_125 hs (by omega) hr ⟨rfl, rfl, rfl⟩
  · obtain rfl : k = 10 := by omega
    exact S_X11_qPartOf_139 hs (by omega) hr ⟨rfl, rfl, rfl⟩
