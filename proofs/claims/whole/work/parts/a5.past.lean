/-! ===== the past ===== -/
theorem slt_t : ∀ c : Fin 20, kd MF (143 + 8 * (c.val : Int)) = 8 := by decide +kernel
theorem slt_k {c : Int} (h : 0 ≤ c ∧ c < 20) : kd MF (143 + 8 * c) = 8 := by
  have := slt_t ⟨c.toNat, by omega⟩
  rw [show (((⟨c.toNat, by omega⟩ : Fin 20).val : Int)) = c from by show ((c.toNat : Nat) : Int) = c; omega] at this
  exact this
theorem slt_r {R : PF} {c : Int} (hs : Shp R) (h : 0 ≤ c ∧ c < 20) : R 141 c = 143 + 8 * c := by
  have e : c = 0 ∨ c = 1 ∨ c = 2 ∨ c = 3 ∨ c = 4 ∨ c = 5 ∨ c = 6 ∨ c = 7 ∨ c = 8 ∨ c = 9 ∨ c = 10 ∨ c = 11 ∨ c = 12 ∨ c = 13 ∨ c = 14 ∨ c = 15 ∨ c = 16 ∨ c = 17 ∨ c = 18 ∨ c = 19 := by omega
  rcases e with rfl | rfl | rfl | rfl | rfl | rfl | rfl | rfl | rfl | rfl | rfl | rfl | rfl | rfl | rfl | rfl | rfl | rfl | rfl | rfl
  · exact rM141_0 hs
  · exact rM141_1 hs
  · exact rM141_2 hs
  · exact rM141_3 hs
  · exact rM141_4 hs
  · exact rM141_5 hs
  · exact rM141_6 hs
  · exact rM141_7 hs
  · exact rM141_8 hs
  · exact rM141_9 hs
  · exact rM141_10 hs
  · exact rM141_11 hs
  · exact rM141_12 hs
  · exact rM141_13 hs
  · exact rM141_14 hs
  · exact rM141_15 hs
  · exact rM141_16 hs
  · exact rM141_17 hs
  · exact rM141_18 hs
  · exact rM141_19 hs
theorem StC.cp {D K : PF} {s a : Int} {I I' : PF} (h : StC D K s I) (x0 : I' a 0 = I s 0) (x1 : I' a 1 = I s 1) (x2 : I' a 2 = I s 2) (x3 : I' a 3 = I s 3) (x4 : ∀ p j, 0 ≤ p → p < I s 3 → 0 ≤ j → j < 8 → I' (a + 2 + p) j = I (s + 2 + p) j) : StC D K a I' := by
  have e3 := h.1.2.2.2
  refine ⟨⟨x0.trans h.1.1, x1.trans h.1.2.1, x2.trans h.1.2.2.1, x3.trans h.1.2.2.2⟩, fun r r0 r1 => ?_⟩
  rw [x4 r 0 r0 (by omega) (by decide) (by decide), x4 r 1 r0 (by omega) (by decide) (by decide), x4 r 2 r0 (by omega) (by decide) (by decide), x4 r 3 r0 (by omega) (by decide) (by decide), x4 r 4 r0 (by omega) (by decide) (by decide), x4 r 5 r0 (by omega) (by decide) (by decide), x4 r 6 r0 (by omega) (by decide) (by decide), x4 r 7 r0 (by omega) (by decide) (by decide)]
  exact h.2 r r0 r1
def reC (c x y : Int) : Prop := stC (143 + 8 * c) x y ∨ (x = 142 ∧ y = c) ∨ (x = 136 ∧ (y = 4 ∨ y = 5))
/-- the class remembers what now is -/
theorem c_remember {X : CX} {I R D K : PF} (hs : Shp R) (hG : GD D) (hS : StC D K 111 I) (h4 : 0 ≤ I 136 4 ∧ I 136 4 < 20) (h5 : 0 ≤ I 136 5 ∧ I 136 5 ≤ 20) :
    CN X 2 mX4_remember [(2, 136), (2, 111)] I R (fun _ I' R' => I' 136 4 = (I 136 4 + 1) % 20 ∧ I' 136 5 = min 20 (I 136 5 + 1) ∧ I' 142 (I 136 4) = I 136 1 ∧ StC D K (143 + 8 * I 136 4) I' ∧ FR (reC (I 136 4)) I I' ∧ R' = R) := by
  refine callee_b (by decide +kernel) (Nat.le_of_ble_eq_true rfl) rfl ?_
  have hD := hG.2.1
  have e3 := hS.1.2.2.2
  refine S_X4_remember_0 (d1 := 1) hs h4 (slt_r hs h4) (by omega) (c_copyFrom hs (slt_k h4) kM111 (by omega) (by omega)) (slt_k h4) (fun z I1 R1 r => ?_)
  obtain ⟨x0, x1, x2, x3, x4, x5, rfl⟩ := r
  have hS1 : StC D K (143 + 8 * I 136 4) I1 := hS.cp x0 x1 x2 x3 x4
  have n : ∀ x y, x ≤ 142 → I1 x y = I x y := fun x y c => x5 x y (fun k => by unfold stC at k; omega)
  have n4 : I1 136 4 = I 136 4 := n _ _ (by decide)
  have n5 : I1 136 5 = I 136 5 := n _ _ (by decide)
  have n1 : I1 136 1 = I 136 1 := n _ _ (by decide)
  have a4 : (u2 I1 142 (I1 136 4) (I1 136 1)) 136 4 = I 136 4 := by rw [u2_o (by decide)]; exact n4
  have em : (I 136 4 + 1).tmod 20 = (I 136 4 + 1) % 20 := Int.tmod_eq_emod_of_nonneg (by omega)
  refine S_X4_remember_13 (d1 := 0) hs (by rw [n4]; exact h4) (by rw [a4]; omega) (by omega) (c_min (by decide) ?_) (fun z2 I2 R2 r => ?_)
  · rw [a4, u2_j (by decide), u2_o (by decide), n5]; unfold inR; omega
  obtain ⟨(hz : z2 = _), rfl, rfl⟩ := r
  rw [a4, u2_j (by decide), u2_o (by decide), n5] at hz
  rw [a4, em, n4, n1]
  refine S_X4_remember_51 ⟨?_, ?_, ?_, ?_, ?_, rfl⟩
  · rw [u2_j (by decide), u2_at]
  · rw [u2_at]; exact hz
  · rw [u2_o (by decide), u2_o (by decide), u2_at]
  · exact hS1.fr ⟨by omega, by omega⟩ (fun x y c => by unfold stC at c; rw [u2_o (by omega), u2_o (by omega), u2_o (by omega)])
  · have fx : FR (reC (I1 136 4)) I I1 := x5.mono (fun x y c => by rw [n4]; exact Or.inl c)
    rw [n4] at fx
    refine ((fx.tr (FR_u2 ?_)).tr (FR_u2 ?_)).tr (FR_u2 ?_)
    · exact Or.inr (Or.inl ⟨rfl, rfl⟩)
    · exact Or.inr (Or.inr ⟨rfl, Or.inl rfl⟩)
    · exact Or.inr (Or.inr ⟨rfl, Or.inr rfl⟩)
def keM (m x y : Int) : Prop := (x = 306 ∧ (y = 76 ∨ y = 77)) ∨ (x = 354 ∧ 154 * m ≤ y ∧ y < 154 * m + 154)
/-- the model keeps what now is -/
theorem c_keeps {X : CX} {I R : PF} (hs : Shp R) (h77 : 0 ≤ I 306 77 ∧ I 306 77 < 20) (h76 : 0 ≤ I 306 76 ∧ I 306 76 ≤ 20) :
    CN X 0 mX11_keeps [(2, 306)] I R (fun _ I' R' => I' 306 77 = (I 306 77 + 1) % 20 ∧ I' 306 76 = min 20 (I 306 76 + 1) ∧ (∀ y, 0 ≤ y → y < 154 → I' 354 (154 * ((I 306 77 + 1) % 20) + y) = I 348 y) ∧ FR (keM ((I 306 77 + 1) % 20)) I I' ∧ R' = R) := by
  refine callee_b (by decide +kernel) (Nat.le_of_ble_eq_true rfl) rfl ?_
  have em : (I 306 77 + 1).tmod 20 = (I 306 77 + 1) % 20 := Int.tmod_eq_emod_of_nonneg (by omega)
  have lp : ∀ (m : Nat) (k : Int) (J : PF), (154 - k).toNat < m → 0 ≤ k → k ≤ 154 → J 306 77 = (I 306 77 + 1) % 20 → (∀ y, 0 ≤ y → y < k → J 354 (154 * ((I 306 77 + 1) % 20) + y) = I 348 y) → FR (fun x y => (x = 306 ∧ y = 77) ∨ (x = 354 ∧ 154 * ((I 306 77 + 1) % 20) ≤ y ∧ y < 154 * ((I 306 77 + 1) % 20) + 154)) I J →
      PN X 0 mX11_keeps 15 [(2, 306), (0, k)] [] J R (fun _ I' R' => I' 306 77 = (I 306 77 + 1) % 20 ∧ I' 306 76 = min 20 (I 306 76 + 1) ∧ (∀ y, 0 ≤ y → y < 154 → I' 354 (154 * ((I 306 77 + 1) % 20) + y) = I 348 y) ∧ FR (keM ((I 306 77 + 1) % 20)) I I' ∧ R' = R) := by
    intro m
    induction m with
    | zero => intro k J h; exact absurd h (Nat.not_lt_zero _)
    | succ m ih =>
      intro k J hm k0 k1 e77 hy f
      have e76 : J 306 76 = I 306 76 := f _ _ (by omega)
      refine S_X11_keeps_15 (by omega) (fun g => ?_) (fun g => ?_)
      · have f' : FR (keM ((I 306 77 + 1) % 20)) I J := f.mono (fun x y c => by unfold keM; omega)
        refine S_X11_keeps_49 (by omega) (fun g2 => S_X11_keeps_68 ⟨e77, by omega, fun y y0 y1 => hy y y0 (by omega), f', rfl⟩) (fun g2 => S_X11_keeps_58 (S_X11_keeps_68 ⟨?_, ?_, fun y y0 y1 => ?_, f'.tr (FR_u2 (Or.inl ⟨rfl, Or.inl rfl⟩)), rfl⟩))
        · rw [u2_j (by decide)]; exact e77
        · rw [u2_at]; omega
        · rw [u2_o (by decide)]; exact hy y y0 (by omega)
      · have m20 := mod20 (I 306 77 + 1)
        refine S_X11_keeps_22 hs ⟨k0, g⟩ (by rw [e77]; omega) ?_
        rw [e77]
        refine ih (k + 1) _ (by omega) (by omega) (by omega) ?_ (fun y y0 y1 => ?_) (f.tr (FR_u2 (Or.inr ⟨rfl, by omega, by omega⟩)))
        · rw [u2_o (by decide)]; exact e77
        · by_cases e : y = k
          · rw [e, u2_at]; exact f _ _ (by omega)
          · rw [u2_j (by omega)]; exact hy y y0 (by omega)
  refine S_X11_keeps_0 (by omega) ?_
  rw [em]
  exact lp _ 0 _ (Nat.lt_succ_self _) (by decide) (by decide) u2_at (fun y y0 y1 => by omega) (FR_u2 (Or.inl ⟨rfl, rfl⟩))
def Rng (D I : PF) : Prop := I 136 5 = I 306 76 ∧ 0 ≤ I 306 76 ∧ I 306 76 ≤ 20 ∧
  (∀ e, 1 ≤ e → e ≤ I 306 76 → StC D (slK I (mSl I e)) (143 + 8 * cSl I e) I ∧ KG D (slK I (mSl I e)) ∧ PaL (slK I (mSl I e)) (I 142 (cSl I e)) I ∧ I 142 (cSl I e) ≤ I 136 1) ∧
  ∀ e f, 1 ≤ e → e ≤ f → f ≤ I 306 76 → I 142 (cSl I f) ≤ I 142 (cSl I e)
theorem cSl_1 {I : PF} (h : 0 ≤ I 136 4 ∧ I 136 4 < 20) {e : Int} (h1 : 1 ≤ e) (h2 : e < 20) : cSl I e ≠ I 136 4 := by unfold cSl; omega
/-- one more in the past -/
theorem Rng.push {D I J : PF} (h : Rng D I) (hn : 0 ≤ D 339 1 ∧ D 339 1 ≤ 6) (j4 : J 136 4 = (I 136 4 + 1) % 20) (j5 : J 136 5 = min 20 (I 136 5 + 1)) (j142 : J 142 (I 136 4) = I 136 1) (j142o : ∀ j, j ≠ I 136 4 → J 142 j = I 142 j) (jc : StC D I (143 + 8 * I 136 4) J) (jo : ∀ x y, 143 ≤ x → x ≤ 302 → ¬ stC (143 + 8 * I 136 4) x y → J x y = I x y)
    (j77 : J 306 77 = (I 306 77 + 1) % 20) (j76 : J 306 76 = min 20 (I 306 76 + 1)) (j354 : ∀ y, 0 ≤ y → y < 154 → J 354 (154 * ((I 306 77 + 1) % 20) + y) = I 348 y) (j354o : ∀ y, ¬ (154 * ((I 306 77 + 1) % 20) ≤ y ∧ y < 154 * ((I 306 77 + 1) % 20) + 154) → J 354 y = I 354 y) (j342 : ∀ y, 24 ≤ y → J 342 y = I 342 y) (j1 : I 136 1 ≤ J 136 1) (jw : ∀ w j, 0 ≤ w → w < 3 → j < I 136 1 → J (138 + w) j = I (138 + w) j)
    (hPa : PaL I (I 136 1) I) (hK : KG D I) (hc : 0 ≤ I 136 4 ∧ I 136 4 < 20) (hm : 0 ≤ I 306 77 ∧ I 306 77 < 20) : Rng D J := by
  obtain ⟨a2, a3, a4, a5, a6⟩ := h
  have ec : ∀ e, cSl J (e + 1) = cSl I e := fun e => by unfold cSl; rw [j4]; omega
  have em : ∀ e, mSl J (e + 1) = mSl I e := fun e => by unfold mSl; rw [j77]; omega
  have ec1 : cSl J 1 = I 136 4 := by unfold cSl; rw [j4]; omega
  have em1 : mSl J 1 = (I 306 77 + 1) % 20 := by unfold mSl; rw [j77]; omega
  have s2 : ∀ m y, 24 ≤ y → slK J m 342 y = I 342 y := fun m y hy => by unfold slK; rw [if_neg (by decide)]; exact j342 y hy
  have s8 : ∀ y, 0 ≤ y → y < 154 → slK J ((I 306 77 + 1) % 20) 348 y = I 348 y := fun y y0 y1 => by unfold slK; rw [if_pos rfl]; exact j354 y y0 y1
  refine ⟨by rw [j5, j76, a2], by rw [j76]; omega, by rw [j76]; omega, fun e e1 e2 => ?_, fun e f e1 e2 e3 => ?_⟩
  · rw [j76] at e2
    by_cases c : e = 1
    · subst c
      rw [ec1, em1, j142]
      exact ⟨jc.cg hn (fun y y0 y1 => s8 y y0 (by omega)) (fun y hy => s2 _ y hy), hK.cg hn (fun y y0 y1 => s8 y y0 (by omega)) (fun y hy => s2 _ y hy), hPa.cg (fun y y0 y1 => s8 y y0 y1) (fun w j w0 w1 c => jw w j w0 w1 c), j1⟩
    · obtain ⟨e', rfl⟩ : ∃ e', e = e' + 1 := ⟨e - 1, by omega⟩
      obtain ⟨b1, b2, b3, b4⟩ := a5 e' (by omega) (by omega)
      have ne := cSl_1 hc (e := e') (by omega) (by omega)
      have cr := mod20 (I 136 4 - e')
      have t8 : ∀ y, 0 ≤ y → y < 154 → slK J (mSl I e') 348 y = slK I (mSl I e') 348 y := fun y y0 y1 => by
        unfold slK; rw [if_pos rfl, if_pos rfl]
        exact j354o _ (by unfold mSl; omega)
      have t2 : ∀ y, 24 ≤ y → slK J (mSl I e') 342 y = slK I (mSl I e') 342 y := fun y hy => by rw [s2 _ y hy]; unfold slK; rw [if_neg (by decide)]
      rw [ec, em, j142o _ ne]
      refine ⟨(b1.cg hn (fun y y0 y1 => t8 y y0 (by omega)) t2).fr hn (fun x y c => jo x y ?_ ?_ ?_), b2.cg hn (fun y y0 y1 => t8 y y0 (by omega)) t2, b3.cg t8 (fun w j w0 w1 c => jw w j w0 w1 (by omega)), by omega⟩
      · unfold stC cSl at c; omega
      · unfold stC cSl at c; omega
      · unfold cSl at c ne; unfold stC at c ⊢; omega
  · rw [j76] at e3
    have one : ∀ f', 1 ≤ f' → f' + 1 ≤ min 20 (I 306 76 + 1) → J 142 (cSl J (f' + 1)) = I 142 (cSl I f') := fun f' f1 f2 => by
      rw [ec]; exact j142o _ (cSl_1 hc f1 (by omega))
    by_cases cf : f = 1
    · have ce : e = 1 := by omega
      rw [cf, ce]; exact Int.le_refl _
    · obtain ⟨f', rfl⟩ : ∃ f', f = f' + 1 := ⟨f - 1, by omega⟩
      rw [one f' (by omega) e3]
      by_cases ce : e = 1
      · subst ce
        rw [ec1, j142]
        exact (a5 f' (by omega) (by omega)).2.2.2
      · obtain ⟨e', rfl⟩ : ∃ e', e = e' + 1 := ⟨e - 1, by omega⟩
        rw [one e' (by omega) (by omega)]
        exact a6 e' f' (by omega) (by omega) (by omega)
/-- one less -/
theorem Pst.pop {D I J : PF} (h : Rng D I) (hn : 0 ≤ D 339 1 ∧ D 339 1 ≤ 6) (h0 : I 306 76 ≠ 0) (j4 : J 136 4 = (I 136 4 + 19) % 20) (j5 : J 136 5 = I 136 5 - 1) (jo : ∀ x y, 138 ≤ x → x ≤ 302 → J x y = I x y) (j77 : J 306 77 = (I 306 77 + 19) % 20) (j76 : J 306 76 = I 306 76 - 1) (j354 : ∀ y, J 354 y = I 354 y) (j342 : ∀ y, 24 ≤ y → J 342 y = I 342 y) (j1 : J 136 1 = I 142 (cSl I 1))
    (j348 : ∀ y, 0 ≤ y → y < 154 → J 348 y = I 354 (154 * mSl I 1 + y)) : Pst D J ∧ KG D J ∧ StC D J (143 + 8 * cSl I 1) I := by
  obtain ⟨a2, a3, a4, a5, a6⟩ := h
  have ec : ∀ e, cSl J e = cSl I (e + 1) := fun e => by unfold cSl; rw [j4]; omega
  have em : ∀ e, mSl J e = mSl I (e + 1) := fun e => by unfold mSl; rw [j77]; omega
  have s2 : ∀ m y, 24 ≤ y → slK J m 342 y = slK I m 342 y := fun m y hy => by unfold slK; rw [if_neg (by decide), if_neg (by decide)]; exact j342 y hy
  have s8 : ∀ m y, slK J m 348 y = slK I m 348 y := fun m y => by unfold slK; rw [if_pos rfl, if_pos rfl]; exact j354 _
  have n8 : ∀ y, 0 ≤ y → y < 154 → J 348 y = slK I (mSl I 1) 348 y := fun y y0 y1 => by unfold slK; rw [if_pos rfl]; exact j348 y y0 y1
  have n2 : ∀ y, 24 ≤ y → J 342 y = slK I (mSl I 1) 342 y := fun y hy => by unfold slK; rw [if_neg (by decide)]; exact j342 y hy
  obtain ⟨b1, b2, b3, b4⟩ := a5 1 (by decide) (by omega)
  refine ⟨⟨?_, by rw [j5, j76, a2], by rw [j76]; omega, by rw [j76]; omega, fun e e1 e2 => ?_, fun e f e1 e2 e3 => ?_⟩, b2.cg hn (fun y y0 y1 => n8 y y0 (by omega)) n2, b1.cg hn (fun y y0 y1 => n8 y y0 (by omega)) n2⟩
  · rw [j1]
    exact b3.cg n8 (fun w j w0 w1 _ => jo _ _ (by omega) (by omega))
  · rw [j76] at e2
    obtain ⟨b1, b2, b3, b4⟩ := a5 (e + 1) (by omega) (by omega)
    have cr := mod20 (I 136 4 - (e + 1))
    rw [ec, em, jo 142 _ (by decide) (by decide), j1]
    refine ⟨(b1.cg hn (fun y _ _ => s8 _ y) (s2 _)).fr hn (fun x y c => jo x y ?_ ?_), b2.cg hn (fun y _ _ => s8 _ y) (s2 _), b3.cg (fun y _ _ => s8 _ y) (fun w j w0 w1 _ => jo _ _ (by omega) (by omega)), a6 1 (e + 1) (by decide) (by omega) (by omega)⟩
    · unfold stC cSl at c; omega
    · unfold stC cSl at c; omega
  · rw [j76] at e3
    rw [ec, ec, jo 142 _ (by decide) (by decide), jo 142 _ (by decide) (by decide)]
    exact a6 _ _ (by omega) (by omega) (by omega)
def acA (p o x y : Int) : Prop := scC p o x y ∨ scM x y ∨ x = 348 ∨ (111 ≤ x ∧ x ≤ 118) ∨ (136 ≤ x ∧ x ≤ 302) ∨ x = 354 ∨ (x = 306 ∧ (y = 76 ∨ y = 77 ∨ y = 78)) ∨ (x = 303 ∧ y = 0)
/-- an act: what is told stays, the state is new -/
theorem Sim.act {I J R R' D : PF} {p o : Int} (h : Sim I R) (hp : Plc R p o) (hT : Tld D p I) (f : FR (acA p o) I J) (fR : FR scR R R') (h5 : bd (J 131 5)) (hsd : J 303 0 = J 306 78 ∧ sdR (J 306 78)) (h4 : 0 ≤ J 136 4 ∧ J 136 4 < 20) (h77 : 0 ≤ J 306 77 ∧ J 306 77 < 20) (hS : StC D J 111 J) (hK : KG D J) (hP : Pst D J) : Sim J R' := by
  obtain ⟨g1, g2, g3, g4, -⟩ := h
  have hpp := hp.2.2
  have e : ∀ x y, ¬ acA p o x y → J x y = I x y := f
  have e6 : ∀ y, ¬ scM 306 y → y ≠ 76 → y ≠ 77 → y ≠ 78 → J 306 y = I 306 y := fun y c c1 c2 c3 => e _ _ (fun d => by
    unfold acA at d
    rcases d with d | d | d
    · unfold scC at d; omega
    · exact c d
    · omega)
  refine ⟨g1.fr (scR_mR fR), ⟨g2.1.rows (fun a ha => funext fun y => f a y (fun c => by unfold acA scC scM at c; omega)), fun x hx => by rw [f x 7 (fun c => by unfold acA scC scM at c; omega)]; exact g2.2 x hx⟩, ?_, ?_, p, o, hp.sc fR, Or.inr ⟨D, ?_⟩⟩
  · refine g3.cg (fun x y c => ?_)
    rcases c with rfl | rfl | ⟨rfl, rfl⟩ | ⟨rfl, rfl⟩
    · exact e _ _ (fun c => by unfold acA scC scM at c; omega)
    · exact e _ _ (fun c => by unfold acA scC scM at c; omega)
    · exact e _ _ (fun c => by unfold acA scC scM at c; omega)
    · exact e6 _ (fun c => by unfold scM at c; omega) (by decide) (by decide) (by decide)
  · obtain ⟨a1, a2, a3, a4, a5, a6, a7, a8⟩ := g4
    refine ⟨fun j => by rw [e _ _ (fun c => by unfold acA scC scM at c; omega), e 308 _ (fun c => by unfold acA scC scM at c; omega)]; exact a1 j, ?_, hsd, ?_, ?_, h5, h4, h77⟩
    · rw [e 64 _ (fun c => by unfold acA scC scM at c; omega), e 64 _ (fun c => by unfold acA scC scM at c; omega), e6 _ (fun c => by unfold scM at c; omega) (by decide) (by decide) (by decide), e6 _ (fun c => by unfold scM at c; omega) (by decide) (by decide) (by decide)]; exact a2
    · rw [e 64 _ (fun c => by unfold acA scC scM at c; omega), e6 _ (fun c => by unfold scM at c; omega) (by decide) (by decide) (by decide)]
      refine ⟨a4.1, a4.2.1, a4.2.2.1, fun k k0 k1 => ?_⟩
      rw [e 305 _ (fun c => by unfold acA scC scM at c; omega), e 382 _ (fun c => by unfold acA scC scM at c; omega)]
      exact a4.2.2.2 k k0 k1
    · rw [e6 _ (fun c => by unfold scM at c; omega) (by decide) (by decide) (by decide)]; exact a5
  · obtain ⟨h1, h2, h3, h4', h5', -, -, -, h9⟩ := hT
    refine ⟨h1, h2, h3.f2 (fun x x0 x1 x2 x3 => funext fun y => e x y (fun c => by unfold acA scC scM at c; omega)) h1, fun k k0 k1 => ?_, h5'.cg h1 (fun y c => ?_) (fun y c => e _ _ (fun d => by unfold acA scC scM at d; omega)) (fun y c => e _ _ (fun d => by unfold acA scC scM at d; omega)) (fun y c => e _ _ (fun d => by unfold acA scC scM at d; omega)) (fun y c => e _ _ (fun d => by unfold acA scC scM at d; omega)) (fun y c => e _ _ (fun d => by unfold acA scC scM at d; omega)) (fun x y c c2 => e _ _ (fun d => by unfold acA scC scM at d; omega)) (fun y c => e _ _ (fun d => by unfold acA scC scM at d; omega)), hK, hS, hP, h9.cg (e _ _ (fun d => by unfold acA scC scM at d; omega)) (e6 _ (fun c => by unfold scM at c; omega) (by decide) (by decide) (by decide)) (fun y => e _ _ (fun d => by unfold acA scC scM at d; omega)) (fun y => e _ _ (fun d => by unfold acA scC scM at d; omega))⟩
    · rw [e _ _ (fun c => by unfold acA scC scM at c; omega)]; exact h4' k k0 k1
    · rcases c with rfl | rfl
      · exact e6 _ (fun c => by unfold scM at c; omega) (by decide) (by decide) (by decide)
      · exact e6 _ (fun c => by unfold scM at c; omega) (by decide) (by decide) (by decide)
/-- both refuse, each by its call -/
theorem Both.rfs {X : CX} {dx dm : Nat} {mx mm : MD} {A : List PV} {I R : PF} {u k : Int} (h : Sim I R) (hx : CN X dx mx ((2, 64) :: A) I R (fun v I' R' => v.2 = u ∧ I' = u2 I 66 k (I 66 k + 1) ∧ R' = R)) (hm : ∀ J : PF, (∀ x y, x ≠ 66 → J x y = I x y) → CN X dm mm ((2, 306) :: A) J R (fun v I' R' => v.2 = u ∧ I' = u2 J 308 k (J 308 k + 1) ∧ R' = R)) : Both X dx dm mx mm A I R :=
  Callee.mono hx (fun v I1 R1 q => by
    obtain ⟨q1, rfl, rfl⟩ := q
    exact Callee.mono (hm _ (fun x y c => u2_o c)) (fun v2 I2 R2 q => by
      obtain ⟨w1, rfl, rfl⟩ := q
      exact ⟨w1.trans q1.symm, h.rf k⟩))
