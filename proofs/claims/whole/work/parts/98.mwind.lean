/-! ===== the model's wind and who can get the hat ===== -/
def CodM (D I : PF) : Prop := (∀ w, (w = 0 ∨ w = 1) → I 345 (2 + w) = D 345 w ∧ I 346 (2 + w) = D 346 w) ∧ ∀ j, 0 ≤ j → j < D 306 53 → I 347 (1600 + j) = D 347 j
theorem ST.cod {D I : PF} (h : ST D I) : CodM D I := by
  obtain ⟨-, -, -, -, -, -, -, h1, h2⟩ := h
  exact ⟨fun w hw => h1 w (by omega) (by omega), h2⟩
def eW (noon h : Int) : Int → Int := fun k => if k = 0 then noon else if k = 1 then h else 0
def eP (K : PF) (noon h p : Int) : Int → Int := fun k => if k = 0 then noon else if k = 1 then h else if 2 ≤ k ∧ k ≤ 5 then mpt K p k else 0
def wndV (D : PF) (noon h : Int) : Int := if D 345 0 = -1 then 0 else (ev (eW noon h) 0 (cods D 0) []).headD 0 % 9
def mayV (D K : PF) (noon h p : Int) : Prop := D 345 1 = -1 ∨ (ev (eP K noon h p) 0 (cods D 1) []).headD 0 = 1
theorem wndV_r (D : PF) (noon h : Int) : 0 ≤ wndV D noon h ∧ wndV D noon h < 9 := by
  unfold wndV
  by_cases c : D 345 0 = -1
  · rw [if_pos c]; decide
  · rw [if_neg c]; omega
/-- what K holds of the people is in range -/
def KB (D K : PF) : Prop := inR (K 348 1) ∧ ∀ p, 0 ≤ p → p < D 339 1 → (0 ≤ K 342 (24 + 4 * p) ∧ K 342 (24 + 4 * p) ≤ 9) ∧ (0 ≤ K 342 (25 + 4 * p) ∧ K 342 (25 + 4 * p) ≤ 2) ∧ ∀ k, 2 ≤ k → k ≤ 5 → bd (mpt K p k)
/-- the model amid a flight: D the square, K the people -/
def FlM (D K : PF) (noon : Int) (I : PF) : Prop := SqM D I ∧ CodM D I ∧ I 342 = K 342 ∧ I 348 = K 348 ∧ I 306 61 = noon
def mFl (x y : Int) : Prop := x = 381 ∨ x = 351 ∨ x = 352 ∨ (x = 306 ∧ (y = 110 ∨ y = 56 ∨ y = 62 ∨ y = 64 ∨ y = 65 ∨ y = 66 ∨ y = 69 ∨ y = 70 ∨ y = 71 ∨ y = 78))
theorem FlM.fr {D K : PF} {noon : Int} {I I' : PF} (h : FlM D K noon I) (f : FR mFl I I') : FlM D K noon I' := by
  obtain ⟨h1, ⟨h2, h3⟩, h4, h5, h6⟩ := h
  have e : ∀ x y, ¬ mFl x y → I' x y = I x y := fun x y c => f x y c
  refine ⟨h1.fr (fun x y c => e x y (by unfold mFl; omega)), ⟨fun w hw => ?_, fun j j0 j1 => ?_⟩, ?_, ?_, ?_⟩
  · rw [e _ _ (by unfold mFl; omega), e 346 _ (by unfold mFl; omega)]; exact h2 w hw
  · rw [e _ _ (by unfold mFl; omega)]; exact h3 j j0 j1
  · rw [← h4]; funext y; exact e _ _ (by unfold mFl; omega)
  · rw [← h5]; funext y; exact e _ _ (by unfold mFl; omega)
  · rw [e _ _ (by unfold mFl; omega)]; exact h6
def mW (x y : Int) : Prop := x = 381 ∨ (x = 306 ∧ (y = 110 ∨ y = 56 ∨ y = 62))
theorem mW_Fl {I J : PF} (h : FR mW I J) : FR mFl I J := h.mono (fun x y c => by unfold mW at c; unfold mFl; omega)
theorem cods_CB {D I : PF} {w : Int} (hC : CodM D I) (hW : WD D) (hw : w = 0 ∨ w = 1) (hn : D 345 w ≠ -1) : CB (fun k => I 347 (1600 + k)) (D 345 w) (cods D w) ∧ D 345 w + (cods D w).length = D 346 w := by
  obtain ⟨-, h1⟩ := hW
  obtain ⟨a1, a2, a3, -⟩ := h1 w hw hn
  have hl : (cods D w).length = (D 346 w - D 345 w).toNat := by unfold cods; rw [List.length_map, List.length_range]
  refine ⟨fun j hj => ?_, by omega⟩
  have h2 := hC.2 (D 345 w + j) (by omega) (by omega)
  show I 347 (1600 + (D 345 w + j)) = _
  rw [h2]
  unfold cods
  rw [List.getD_eq_getElem?_getD, List.getElem?_map, List.getElem?_range (by omega)]
  rfl
theorem tm9 (v : Int) : v.tmod 9 = if 0 ≤ v then v % 9 else -((-v) % 9) := by
  by_cases c : 0 ≤ v
  · rw [if_pos c, Int.tmod_eq_emod_of_nonneg c]
  · rw [if_neg c]
    have h : v.tmod 9 = -((-v).tmod 9) := by rw [Int.neg_tmod, Int.neg_neg]
    rw [h, Int.tmod_eq_emod_of_nonneg (by omega)]
theorem ev_bW {z e s} {w : List Int} {B : Int → Prop} (hw : PW1 z B 64 w) (he : ∀ k, bd (e k)) : B ((ev e s w []).headD 0) := by
  obtain ⟨-, v, hv, b⟩ := hw e s [] he (fun v h => absurd h List.not_mem_nil) (Nat.le_refl _)
  rw [hv]
  exact b
theorem c_windNow {X : CX} {I R D K : PF} {noon h : Int} (hs : Shp R) (hF : FlM D K noon I) (hG : GD D) (hW : WD D) (hK : KB D K) (hn : bd noon) (hh : I 306 66 = h) (hb : bd h) :
    CN X 3 mX11_windNow [(2, 306)] I R (fun v I' R' => v.2 = wndV D noon h ∧ FR mW I I' ∧ R' = R) := by
  refine callee_b (by decide +kernel) (Nat.le_of_ble_eq_true rfl) rfl ?_
  obtain ⟨-, hC, -, h5, h6⟩ := hF
  obtain ⟨c1, c2⟩ := hC.1 0 (Or.inl rfl)
  rw [show (2 : Int) + 0 = 2 by decide] at c1 c2
  have h53 := hG.2.2.2.2.2.2.2.2.2.1
  have h345 := hG.2.2.2.2.2.2.2.2.2.2.1
  refine S_X11_windNow_0 hs (by omega) (fun g => ?_) (fun g => ?_)
  rotate_left
  · refine S_X11_windNow_10 ⟨?_, FR.rf, rfl⟩
    show 0 = wndV D noon h
    unfold wndV; rw [if_pos (by omega)]
  have hne : D 345 0 ≠ -1 := by omega
  obtain ⟨b1, b2⟩ := cods_CB hC hW (Or.inl rfl) hne
  have hp := hW.2 0 (Or.inl rfl) hne
  have e : ∀ x y, ¬ (x = 306 ∧ y = 62) → u2 I 306 62 (I 306 66) x y = I x y := fun x y c => (FR_u2 (P := fun a b => a = 306 ∧ b = 62) ⟨rfl, rfl⟩) x y c
  have hbe : ∀ k, bd (eW noon h k) := fun k => by
    unfold eW
    by_cases k0 : k = 0
    · rw [if_pos k0]; exact hn
    · rw [if_neg k0]
      by_cases k1 : k = 1
      · rw [if_pos k1]; exact hb
      · rw [if_neg k1]; unfold bd; omega
  refine S_X11_windNow_12 (d1 := 2) (by omega) (c_codesTell (w := cods D 0) (e := eW noon h) (s := 0) (B := bW 0) hs (by decide) (by decide) (fun k k0 k1 hk => ?_) hbe ?_ ?_ ?_ ?_ ?_ hp.2.2.2) (fun z I1 R1 p => ?_)
  · unfold al at hk
    rw [if_pos rfl] at hk
    unfold mpt eW
    by_cases c : k = 0
    · rw [if_pos c, if_pos c, e _ _ (by decide)]; exact h6
    · rw [if_neg c, if_neg c, if_pos (by omega), if_pos (by omega), u2_at]; exact hh
  · rw [e _ _ (by decide), h5]; exact hK.1
  · rw [e _ _ (by omega), show (2 : Int) + 0 = 2 by decide, c1]; exact hp.1
  · rw [e _ _ (by omega), e _ _ (by omega), show (2 : Int) + 0 = 2 by decide, c1, c2]; exact b2
  · rw [e _ _ (by omega), show (2 : Int) + 0 = 2 by decide, c2]; omega
  · rw [e _ _ (by omega), show (2 : Int) + 0 = 2 by decide, c1]
    intro j hj
    have := b1 j hj
    simp only at this ⊢
    rw [e _ _ (by omega)]
    exact this
  obtain ⟨(hz : z = _), hf, rfl⟩ := p
  have hv : bd z := by rw [hz]; exact bW_bd (ev_bW hp.2.2.2 hbe)
  have hV : wndV D noon h = z % 9 := by unfold wndV; rw [if_neg hne, hz]
  have ff : FR mW I I1 := ((FR_u2 (Or.inr ⟨rfl, Or.inr (Or.inr rfl)⟩)).tr (hf.mono (fun x y c => by unfold mK at c; unfold mW; omega)))
  unfold bd at hv
  have h9 := tm9 z
  refine S_X11_windNow_26 (by omega) (by rw [h9]; split <;> omega) (fun g => ?_) (fun g => ?_)
  · exact S_X11_windNow_43 (S_X11_windNow_44 ⟨by show z.tmod 9 = _; rw [hV, h9]; rw [h9] at g; split at g <;> split <;> omega, ff, rfl⟩)
  · exact S_X11_windNow_36 (S_X11_windNow_44 ⟨by show z.tmod 9 + 9 = _; rw [hV, h9]; rw [h9] at g; split at g <;> split <;> omega, ff, rfl⟩)
