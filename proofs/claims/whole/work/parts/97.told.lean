/-! ===== a sheet told holds formulas that run ===== -/
def cods (D : PF) (w : Int) : List Int := (List.range (D 346 w - D 345 w).toNat).map (fun j : Nat => D 347 (D 345 w + (j : Int)))
def bW (w v : Int) : Prop := if w = 1 then b01 v else bd v
theorem bW_bd {w v : Int} (h : bW w v) : bd v := by
  unfold bW at h
  by_cases c : w = 1
  · rw [if_pos c] at h; exact b01_bd h
  · rw [if_neg c] at h; exact h
/-- the formulas of D run; they lie ahead of where the next goes -/
def WD (D : PF) : Prop := 0 ≤ D 306 53 ∧ ∀ w, (w = 0 ∨ w = 1) → D 345 w ≠ -1 → 0 ≤ D 345 w ∧ D 345 w ≤ D 346 w ∧ D 346 w ≤ D 306 53 ∧ PW1 w (bW w) 64 (cods D w)
theorem cods_congr {D D' : PF} {w : Int} (h5 : D' 345 w = D 345 w) (h6 : D' 346 w = D 346 w) (h7 : ∀ y, D 345 w ≤ y → y < D 346 w → D' 347 y = D 347 y) : cods D' w = cods D w := by
  unfold cods
  rw [h5, h6]
  refine List.map_congr_left (fun j hj => ?_)
  have := List.mem_range.mp hj
  exact h7 _ (by omega) (by omega)
theorem WD.fr {D D' : PF} (h : WD D) (h53 : D' 306 53 = D 306 53) (g : ∀ x y, (x = 345 ∨ x = 346 ∨ x = 347) → D' x y = D x y) : WD D' := by
  obtain ⟨h0, h1⟩ := h
  refine ⟨by rw [h53]; exact h0, fun w hw hn => ?_⟩
  rw [g 345 w (by omega)] at hn
  obtain ⟨a1, a2, a3, a4⟩ := h1 w hw hn
  have e5 := g 345 w (by omega)
  have e6 := g 346 w (by omega)
  refine ⟨by omega, by omega, by omega, ?_⟩
  rw [cods_congr e5 e6 (fun y _ _ => g 347 y (by omega))]
  exact a4
theorem fCo_run {t : Int → Int} {n w : Int} {s : SA} {q : Int × Bool} (hw : w = 0 ∨ w = 1) (h : fSA t n w s = .inl q) : PW1 w (bW w) 64 (fCo t n w s) := by
  cases s with
  | inr f => cases h
  | inl q0 =>
    unfold fSA at h
    unfold fCo
    simp only at h ⊢
    cases hr : fRd t n w q0 with
    | inr f => rw [hr] at h; cases h
    | inl r =>
      simp only
      unfold fRd at hr
      rcases hw with rfl | rfl
      · rw [if_neg (by decide)] at hr
        have e : bW 0 = bd := by funext v; unfold bW; rw [if_neg (by decide)]
        rw [e]
        exact sumF_w hr
      · rw [if_pos rfl] at hr
        have e : bW 1 = b01 := by funext v; unfold bW; rw [if_pos rfl]
        rw [e]
        exact tstF_w hr
theorem WD_cod {t : Int → Int} {n w : Int} {D : PF} {s : SA} {q : Int × Bool} (h : WD D) (hw : w = 0 ∨ w = 1) (hs : fSA t n w s = .inl q) : WD (codD t n D w s) := by
  have hC := fCo_run hw hs
  obtain ⟨h0, h1⟩ := h
  generalize hc : fCo t n w s = C at hC
  have u : ∀ x y, codD t n D w s x y = if x = 345 ∧ y = w then D 306 53 else if x = 346 ∧ y = w then D 306 53 + C.length else if x = 306 ∧ y = 53 then D 306 53 + C.length else if x = 347 ∧ D 306 53 ≤ y ∧ y < D 306 53 + C.length then C.getD (y - D 306 53).toNat 0 else D x y := fun x y => by unfold codD; rw [hc]
  generalize codD t n D w s = D' at u
  have e53 : D' 306 53 = D 306 53 + C.length := by rw [u, if_neg (by omega), if_neg (by omega), if_pos ⟨rfl, rfl⟩]
  have e347 : ∀ y, D' 347 y = if D 306 53 ≤ y ∧ y < D 306 53 + C.length then C.getD (y - D 306 53).toNat 0 else D 347 y := fun y => by
    rw [u, if_neg (by omega), if_neg (by omega), if_neg (by omega)]
    by_cases c : D 306 53 ≤ y ∧ y < D 306 53 + C.length
    · rw [if_pos ⟨rfl, c⟩, if_pos c]
    · rw [if_neg (fun k => c k.2), if_neg c]
  refine ⟨by omega, fun v hv hn => ?_⟩
  by_cases c : v = w
  · subst c
    have e5 : D' 345 v = D 306 53 := by rw [u, if_pos ⟨rfl, rfl⟩]
    have e6 : D' 346 v = D 306 53 + C.length := by rw [u, if_neg (by omega), if_pos ⟨rfl, rfl⟩]
    refine ⟨by omega, by omega, by omega, ?_⟩
    have ec : cods D' v = C := by
      unfold cods
      rw [e5, e6, show (D 306 53 + (C.length : Int) - D 306 53).toNat = C.length by omega]
      refine List.ext_getElem (by rw [List.length_map, List.length_range]) (fun i i1 i2 => ?_)
      rw [List.getElem_map, List.getElem_range, e347, if_pos (by omega), show (D 306 53 + (i : Int) - D 306 53).toNat = i by omega, List.getD_eq_getElem?_getD, List.getElem?_eq_getElem i2, Option.getD_some]
    rw [ec]
    exact hC
  · have e5 : D' 345 v = D 345 v := by rw [u, if_neg (fun k => c k.2), if_neg (by omega), if_neg (by omega), if_neg (by omega)]
    have e6 : D' 346 v = D 346 v := by rw [u, if_neg (by omega), if_neg (fun k => c k.2), if_neg (by omega), if_neg (by omega)]
    rw [e5] at hn
    obtain ⟨a1, a2, a3, a4⟩ := h1 v hv hn
    refine ⟨by omega, by omega, by omega, ?_⟩
    rw [cods_congr e5 e6 (fun y y0 y1 => by rw [e347, if_neg (by omega)])]
    exact a4
theorem flt_A {k p : Int} {s : SA} {q : Int × Bool} (h : fltA k p s = .inl q) : False := by
  unfold fltA at h
  cases s <;> cases h
theorem WD_stm {t : Int → Int} {n c : Int} {D : PF} {s : SA} {q : Int × Bool} (h : WD D) (hs : stmS t n D c s = .inl q) : WD (stmD t n D s) := by
  have u2f : ∀ {D : PF} {o j v : Int}, WD D → (o = 339 ∨ o = 340 ∨ o = 342 ∨ o = 343 ∨ o = 344 ∨ (o = 306 ∧ j = 48)) → WD (u2 D o j v) := fun {D o j v} hD ho => by
    refine hD.fr ?_ (fun x y hx => u2_o (by omega))
    by_cases c : o = 306
    · subst c; rw [u2_j (by omega)]
    · exact u2_o (by omega)
  unfold stmS at hs
  by_cases c6 : c = 60
  · rw [if_pos c6] at hs; exact (flt_A hs).elim
  rw [if_neg c6] at hs
  obtain ⟨q1, h1, -, -⟩ := askS_in (by decide) hs
  unfold stmD
  by_cases g1 : tw t n s = 173171034
  · rw [if_pos g1]
    unfold lawD
    exact u2f (u2f h (by omega)) (by omega)
  rw [if_neg g1] at h1 ⊢
  by_cases g2 : tw t n s = 232608281
  · rw [if_pos g2]
    unfold perD
    exact u2f (u2f (u2f (u2f (u2f (u2f (u2f (u2f (u2f h (by omega)) (by omega)) (by omega)) (by omega)) (by omega)) (by omega)) (by omega)) (by omega)) (by omega)
  rw [if_neg g2] at h1 ⊢
  by_cases g3 : tw t n s = 330801246
  · rw [if_pos g3]
    unfold walD
    exact u2f (u2f (u2f h (by omega)) (by omega)) (by omega)
  rw [if_neg g3] at h1 ⊢
  by_cases g4 : tw t n s = 335086821
  · rw [if_pos g4] at h1 ⊢
    exact WD_cod h (Or.inl rfl) (codS_in h1).2
  rw [if_neg g4] at h1 ⊢
  by_cases g5 : tw t n s = 187559307
  · rw [if_pos g5] at h1 ⊢
    exact WD_cod h (Or.inr rfl) (codS_in h1).2
  rw [if_neg g5]
  unfold gusD
  exact u2f h (Or.inr (Or.inr (Or.inr (Or.inr (Or.inr ⟨rfl, rfl⟩)))))
theorem WD_stmL {t : Int → Int} {n : Int} : ∀ (k : Nat) (s : SA) (D : PF) (c : Int) (q : Int × Bool), WD D → (stmL t n k s D c).1 = .inl q → WD (stmL t n k s D c).2.1
  | 0, s, D, c, q, h, hq => h
  | k + 1, s, D, c, q, h, hq => by
    unfold stmL at hq ⊢
    by_cases g : nxt t n s = -1
    · rw [if_pos g]; exact h
    · rw [if_neg g] at hq ⊢
      cases hs : stmS t n D c s with
      | inr f => rw [hs, stmL_f] at hq; cases hq
      | inl q1 =>
        rw [hs] at hq
        exact WD_stmL k _ _ _ q (WD_stm h hs) hq
/-- so does what a whole text tells -/
theorem WD_sgR {t : Int → Int} {n : Int} {D : PF} {q : Int × Bool} (h : (sgR t n D).1 = .inl q) : WD (sgR t n D).2.1 := by
  refine WD_stmL 61 _ _ 1 q ?_ h
  have z5 : ∀ w, (w = 0 ∨ w = 1) → sgD t n (D0 D) 345 w = -1 := fun w hw => by
    unfold sgD D0
    rcases hw with rfl | rfl
    · rw [u2_o (by decide), u2_o (by decide), u2_o (by decide), u2_o (by decide), u2_o (by decide), u2_o (by decide), u2_j (by decide), u2_at]
    · rw [u2_o (by decide), u2_o (by decide), u2_o (by decide), u2_o (by decide), u2_o (by decide), u2_o (by decide), u2_at]
  have z53 : sgD t n (D0 D) 306 53 = 0 := by
    unfold sgD D0
    rw [u2_o (by decide), u2_o (by decide), u2_o (by decide), u2_o (by decide), u2_o (by decide), u2_j (by decide), u2_o (by decide), u2_o (by decide), u2_o (by decide), u2_o (by decide), u2_o (by decide), u2_at]
  exact ⟨by omega, fun w hw hn => absurd (z5 w hw) hn⟩
