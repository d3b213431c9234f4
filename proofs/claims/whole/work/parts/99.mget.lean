/-! ===== the model's getter ===== -/
theorem mpt_K {I K : PF} {p k : Int} (h4 : I 342 = K 342) (h5 : I 348 = K 348) (hk : 2 ≤ k ∧ k ≤ 5) : mpt I p k = mpt K p k := by
  rcases (show k = 2 ∨ k = 3 ∨ k = 4 ∨ k = 5 by omega) with rfl | rfl | rfl | rfl <;> unfold mpt <;> rw [h4, h5] <;> rfl
theorem eP_bd {D K : PF} {noon hg p : Int} (hK : KB D K) (hn : bd noon) (hb : bd hg) (hp : 0 ≤ p ∧ p < D 339 1) : ∀ k, bd (eP K noon hg p k) := fun k => by
  unfold eP
  by_cases k0 : k = 0
  · rw [if_pos k0]; exact hn
  rw [if_neg k0]
  by_cases k1 : k = 1
  · rw [if_pos k1]; exact hb
  rw [if_neg k1]
  by_cases k2 : 2 ≤ k ∧ k ≤ 5
  · rw [if_pos k2]; exact (hK.2 p hp.1 hp.2).2.2 k k2.1 k2.2
  · rw [if_neg k2]; unfold bd; omega
def canG (D K : PF) (noon hg : Int) (h : Int × Int) (P : Int → Int × Int) (p : Int) : Prop := far h (P p) ≤ 1 ∧ hg ≤ K 342 (24 + 4 * p) ∧ mayV D K noon hg p
theorem c_canGet {X : CX} {I R D K : PF} {noon hg p : Int} {h : Int × Int} {P : Int → Int × Int} (hs : Shp R) (hF : FlM D K noon I) (hG : GD D) (hW : WD D) (hK : KB D K) (hn : bd noon) (hh : I 306 66 = hg) (hb : bd hg) (hP : PosM (D 339 1) P I) (hI : PIn D P) (hq : inQ D h) (h1 : I 306 64 = h.1) (h2 : I 306 65 = h.2) (hp : 0 ≤ p ∧ p < D 339 1) :
    CN X 3 mX11_canGet [(2, 306), (0, p)] I R (fun v I' R' => v.2 = bi (canG D K noon hg h P p) ∧ FR mW I I' ∧ R' = R) := by
  refine callee_b (by decide +kernel) (Nat.le_of_ble_eq_true rfl) rfl ?_
  obtain ⟨⟨a1, a2, a3, a4, -⟩, ⟨-, -, r3, r4, -⟩, -⟩ := id hG
  obtain ⟨e1, e2⟩ := hP p hp.1 hp.2
  obtain ⟨i1, i2, i3, i4⟩ := hI p hp.1 hp.2
  obtain ⟨j1, j2, j3, j4⟩ := hq
  obtain ⟨-, hC, h4, h5, h6⟩ := hF
  obtain ⟨⟨t1, t2⟩, -, -⟩ := hK.2 p hp.1 hp.2
  obtain ⟨c1, c2⟩ := hC.1 1 (Or.inr rfl)
  rw [show (2 : Int) + 1 = 3 by decide] at c1 c2
  have h53 := hG.2.2.2.2.2.2.2.2.2.1
  have h345 := hG.2.2.2.2.2.2.2.2.2.2.2
  have hbe := eP_bd hK hn hb hp
  have hb' := hb
  unfold bd at hb'
  refine S_X11_canGet_0 (d1 := 0) hs (by omega) (by omega) (by rw [e1, e2]; exact c_farFrom h1 h2 (by omega) (by omega) (by omega)) (fun z I1 R1 q => ?_)
  obtain ⟨(hz : z = far h (P p)), rfl, rfl⟩ := q
  have fr : far h (P p) ≤ 100 ∧ -100 ≤ far h (P p) := by unfold far; omega
  refine S_X11_canGet_16 (by omega) (fun g => ?_) (fun g => ?_)
  · exact S_X11_canGet_32 ⟨(bi_f (fun c => by have := c.1; omega)).symm, FR.rf, rfl⟩
  refine S_X11_canGet_20 (d1 := 0) (by omega) (callee_b (Q := fun v I' R' => v.2 = I1 342 (24 + 4 * p) ∧ I' = I1 ∧ R' = R1) (by decide +kernel) (Nat.le_of_ble_eq_true rfl) rfl (S_X11_tallOf_0 hs (by omega) ⟨rfl, rfl, rfl⟩)) (fun tl I2 R2 q => ?_)
  obtain ⟨(ht : tl = _), rfl, rfl⟩ := q
  rw [h4] at ht
  refine S_X11_canGet_25 (by omega) (by omega) (fun g1 => ?_) (fun g1 => ?_)
  rotate_left
  · exact S_X11_canGet_32 ⟨(bi_f (fun c => by have := c.2.1; omega)).symm, FR.rf, rfl⟩
  have e : ∀ x y, ¬ (x = 306 ∧ y = 62) → u2 I2 306 62 (I2 306 66) x y = I2 x y := fun x y c => (FR_u2 (P := fun a b => a = 306 ∧ b = 62) ⟨rfl, rfl⟩) x y c
  have e62 : u2 I2 306 62 (I2 306 66) 306 62 = hg := by rw [u2_at]; exact hh
  have f0 : FR mW I2 (u2 I2 306 62 (I2 306 66)) := FR_u2 (Or.inr ⟨rfl, Or.inr (Or.inr rfl)⟩)
  have e3 : u2 I2 306 62 (I2 306 66) 345 3 = D 345 1 := by rw [e _ _ (by decide)]; exact c1
  have hcan : canG D K noon hg h P p ↔ mayV D K noon hg p := ⟨fun c => c.2.2, fun c => ⟨by omega, by omega, c⟩⟩
  refine S_X11_canGet_34 hs (by rw [e3]; omega) (fun g2 => ?_) (fun g2 => ?_)
  · rw [e3] at g2
    exact S_X11_canGet_63 (S_X11_canGet_68 (Or.inr rfl) ⟨(bi_t (hcan.mpr (Or.inl g2))).symm, f0, rfl⟩)
  rw [e3] at g2
  generalize u2 I2 306 62 (I2 306 66) = J at e e62 f0
  obtain ⟨b1, b2⟩ := cods_CB hC hW (Or.inr rfl) g2
  have hp1 := hW.2 1 (Or.inr rfl) g2
  refine S_X11_canGet_52 (d1 := 2) (by omega) (c_codesTell (w := cods D 1) (e := eP K noon hg p) (s := 0) (B := bW 1) hs (by decide) (by omega) (fun k k0 k1 hk => ?_) hbe ?_ ?_ ?_ ?_ ?_ hp1.2.2.2) (fun z2 I1 R1 q => ?_)
  · unfold al at hk
    rw [if_neg (by decide), if_pos rfl] at hk
    by_cases c0 : k = 0
    · subst c0
      show J 306 61 = noon
      rw [e _ _ (by decide)]; exact h6
    by_cases c1 : k = 1
    · subst c1
      exact e62
    rw [mpt_K (K := K) (by rw [← h4]; funext y; exact e _ _ (by omega)) (by rw [← h5]; funext y; exact e _ _ (by omega)) (by omega)]
    unfold eP
    rw [if_neg c0, if_neg c1, if_pos (by omega)]
  · rw [e _ _ (by decide), h5]; exact hK.1
  · rw [e _ _ (by omega), show (2 : Int) + 1 = 3 by decide, c1]; exact hp1.1
  · rw [e _ _ (by omega), e _ _ (by omega), show (2 : Int) + 1 = 3 by decide, c1, c2]; exact b2
  · rw [e _ _ (by omega), show (2 : Int) + 1 = 3 by decide, c2]; omega
  · rw [e _ _ (by omega), show (2 : Int) + 1 = 3 by decide, c1]
    intro j hj
    have := b1 j hj
    simp only at this ⊢
    rw [e _ _ (by omega)]
    exact this
  obtain ⟨(hz2 : z2 = _), hf, rfl⟩ := q
  have hv : bd z2 := by rw [hz2]; exact bW_bd (ev_bW hp1.2.2.2 hbe)
  have ff : FR mW I2 I1 := f0.tr (hf.mono (fun x y c => by unfold mK at c; unfold mW; omega))
  unfold bd at hv
  refine S_X11_canGet_58 (by omega) (fun g3 => ?_) (fun g3 => ?_)
  · refine S_X11_canGet_67 (S_X11_canGet_68 (Or.inl rfl) ⟨(bi_f (fun c => ?_)).symm, ff, rfl⟩)
    rcases hcan.mp c with c | c
    · exact g2 c
    · exact g3 (hz2.trans c)
  · exact S_X11_canGet_63 (S_X11_canGet_68 (Or.inr rfl) ⟨(bi_t (hcan.mpr (Or.inr (hz2.symm.trans g3)))).symm, ff, rfl⟩)
def btr (K : PF) (h : Int × Int) (P : Int → Int × Int) (b p : Int) : Prop := b = -1 ∨ K 342 (24 + 4 * b) < K 342 (24 + 4 * p) ∨ (K 342 (24 + 4 * p) = K 342 (24 + 4 * b) ∧ far h (P p) < far h (P b))
/-- who of the first k gets it, -1: none -/
noncomputable def gtr (D K : PF) (noon hg : Int) (h : Int × Int) (P : Int → Int × Int) : Nat → Int
  | 0 => -1
  | k + 1 => cif (canG D K noon hg h P k ∧ btr K h P (gtr D K noon hg h P k) k) (k : Int) (gtr D K noon hg h P k)
theorem gtr_r (D K : PF) (noon hg : Int) (h : Int × Int) (P : Int → Int × Int) : ∀ k : Nat, -1 ≤ gtr D K noon hg h P k ∧ gtr D K noon hg h P k < k
  | 0 => by unfold gtr; omega
  | k + 1 => by
    have := gtr_r D K noon hg h P k
    unfold gtr
    by_cases c : canG D K noon hg h P k ∧ btr K h P (gtr D K noon hg h P k) k
    · rw [cif_t c]; omega
    · rw [cif_f c]; omega
