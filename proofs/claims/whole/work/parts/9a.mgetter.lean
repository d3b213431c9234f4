/-! ===== the model's getter walks all ===== -/
theorem PosM.fr {n : Int} {P : Int → Int × Int} {I I' : PF} (h : PosM n P I) (f : ∀ x y, (x = 351 ∨ x = 352) → I' x y = I x y) : PosM n P I' := fun p p0 p1 => by
  rw [f _ _ (Or.inl rfl), f _ _ (Or.inr rfl)]; exact h p p0 p1
theorem get_loop {X : CX} {d : Nat} {R : PF} {Q : PV → PF → PF → Prop} {I0 D K : PF} {noon hg : Int} {h : Int × Int} {P : Int → Int × Int} (hs : Shp R) (hd : 4 ≤ d) (hG : GD D) (hW : WD D) (hK : KB D K) (hn : bd noon) (hb : bd hg) (hI : PIn D P) (hq : inQ D h)
    (hQ : ∀ I', FR mW I0 I' → Q (0, gtr D K noon hg h P (D 339 1).toNat) I' R) : ∀ (m k : Nat) (I : PF), (D 339 1).toNat - k < m → (k : Int) ≤ D 339 1 → FlM D K noon I → PosM (D 339 1) P I → I 306 64 = h.1 → I 306 65 = h.2 → I 306 66 = hg → FR mW I0 I →
    PN X d mX11_getter 4 [(2, 306), (0, gtr D K noon hg h P k), (0, (k : Int))] [] I R Q := by
  intro m
  obtain ⟨⟨a1, a2, a3, a4, -⟩, ⟨-, -, r3, r4, -⟩, -⟩ := id hG
  obtain ⟨j1, j2, j3, j4⟩ := id hq
  induction m with
  | zero => intro k I h; exact absurd h (Nat.not_lt_zero _)
  | succ m ih =>
    intro k I hm hk hF hP h1 h2 h3 hf
    have e4 : I 339 4 = D 339 1 := hF.1.2.2.2.1
    have gr := gtr_r D K noon hg h P k
    refine S_X11_getter_4 (d1 := 0) (by omega) (callee_b (Q := fun v I' R' => v.2 = I 339 4 ∧ I' = I ∧ R' = R) (by decide +kernel) (Nat.le_of_ble_eq_true rfl) rfl (S_X11_personMany_0 hs ⟨rfl, rfl, rfl⟩)) (fun z I1 R1 q => ?_)
    obtain ⟨(hz : z = _), rfl, rfl⟩ := q
    refine S_X11_getter_9 (by omega) (by omega) (fun g => ?_) (fun g => ?_)
    · refine S_X11_getter_97 ?_
      have := hQ I1 hf
      rw [show (D 339 1).toNat = k by omega] at this
      exact this
    refine S_X11_getter_12 (d1 := 3) (by omega) (c_canGet hs hF hG hW hK hn h3 hb hP hI hq h1 h2 ⟨by omega, by omega⟩) (fun z2 I2 R2 q => ?_)
    obtain ⟨(hz2 : z2 = _), f2, rfl⟩ := q
    have br := bi_r (canG D K noon hg h P k)
    have e2 : ∀ x y, ¬ mW x y → I2 x y = I1 x y := fun x y c => f2 x y c
    have hF2 := hF.fr (mW_Fl f2)
    have hP2 : PosM (D 339 1) P I2 := hP.fr (fun x y c => e2 x y (by unfold mW; omega))
    obtain ⟨p1, p2⟩ := hP2 k (by omega) (by omega)
    obtain ⟨i1, i2, i3, i4⟩ := hI k (by omega) (by omega)
    have w1 : I2 306 64 = h.1 := by rw [e2 _ _ (by unfold mW; omega)]; exact h1
    have w2 : I2 306 65 = h.2 := by rw [e2 _ _ (by unfold mW; omega)]; exact h2
    have w3 : I2 306 66 = hg := by rw [e2 _ _ (by unfold mW; omega)]; exact h3
    have h4 : I2 342 = K 342 := hF2.2.2.1
    have next : ∀ b, b = gtr D K noon hg h P (k + 1) → PN X d mX11_getter 91 [(2, 306), (0, b), (0, (k : Int))] [] I2 R2 Q := fun b hb' => by
      refine S_X11_getter_91 ?_
      have := ih (k + 1) I2 (by omega) (by omega) hF2 hP2 w1 w2 w3 (hf.tr f2)
      rw [← hb', show ((k + 1 : Nat) : Int) = (k : Int) + 1 by omega] at this
      exact this
    have yes : canG D K noon hg h P k → btr K h P (gtr D K noon hg h P k) k → PN X d mX11_getter 89 [(2, 306), (9, 0), (0, (k : Int))] [] I2 R2 Q := fun c1 c2 => S_X11_getter_89 (next k (by unfold gtr; rw [cif_t ⟨c1, c2⟩]))
    have no : ¬ (canG D K noon hg h P k ∧ btr K h P (gtr D K noon hg h P k) k) → PN X d mX11_getter 91 [(2, 306), (0, gtr D K noon hg h P k), (0, (k : Int))] [] I2 R2 Q := fun c => next _ (by rw [gtr, cif_f c])
    refine S_X11_getter_17 (by omega) (fun g2 => ?_) (fun g2 => ?_)
    rotate_left
    · have c := bi_0 (hz2.symm.trans g2)
      exact S_X11_getter_20 (no (fun k => c k.1))
    have cc := bi_1 (by rw [← hz2]; exact g2)
    refine S_X11_getter_23 (by omega) (fun g3 => yes cc (Or.inl g3)) (fun g3 => ?_)
    have hbk : 0 ≤ gtr D K noon hg h P k ∧ gtr D K noon hg h P k < D 339 1 := by omega
    obtain ⟨⟨t1, t2⟩, -, -⟩ := hK.2 k (by omega) (by omega)
    obtain ⟨⟨t3, t4⟩, -, -⟩ := hK.2 _ hbk.1 hbk.2
    obtain ⟨p3, p4⟩ := hP2 _ hbk.1 hbk.2
    obtain ⟨i5, i6, i7, i8⟩ := hI _ hbk.1 hbk.2
    have tl : ∀ p, 0 ≤ p → p < 6 → CN X 0 mX11_tallOf [(2, 306), (0, p)] I2 R2 (fun v I' R' => v.2 = K 342 (24 + 4 * p) ∧ I' = I2 ∧ R' = R2) := fun p q0 q1 => callee_b (by decide +kernel) (Nat.le_of_ble_eq_true rfl) rfl (S_X11_tallOf_0 hs (by omega) ⟨by rw [h4], rfl, rfl⟩)
    have hbt : btr K h P (gtr D K noon hg h P k) k ↔ K 342 (24 + 4 * gtr D K noon hg h P k) < K 342 (24 + 4 * (k : Int)) ∨ (K 342 (24 + 4 * (k : Int)) = K 342 (24 + 4 * gtr D K noon hg h P k) ∧ far h (P k) < far h (P (gtr D K noon hg h P k))) := ⟨fun c => c.resolve_left g3, fun c => Or.inr c⟩
    generalize gtr D K noon hg h P k = b at *
    have fr1 : far h (P k) ≤ 100 ∧ -100 ≤ far h (P k) := by unfold far; omega
    have fr2 : far h (P b) ≤ 100 ∧ -100 ≤ far h (P b) := by unfold far; omega
    refine S_X11_getter_28 (d1 := 0) (by omega) (tl k (by omega) (by omega)) (fun y1 J1 S1 q => ?_)
    obtain ⟨(hy1 : y1 = _), rfl, rfl⟩ := q
    refine S_X11_getter_33 (d1 := 0) (by omega) (tl b (by omega) (by omega)) (fun y2 J1 S1 q => ?_)
    obtain ⟨(hy2 : y2 = _), rfl, rfl⟩ := q
    refine S_X11_getter_38 (by omega) (by omega) (fun g4 => yes cc (hbt.mpr (Or.inl (by omega)))) (fun g4 => ?_)
    refine S_X11_getter_41 (d1 := 0) (by omega) (tl k (by omega) (by omega)) (fun y3 J1 S1 q => ?_)
    obtain ⟨(hy3 : y3 = _), rfl, rfl⟩ := q
    refine S_X11_getter_46 (d1 := 0) (by omega) (tl b (by omega) (by omega)) (fun y4 J1 S1 q => ?_)
    obtain ⟨(hy4 : y4 = _), rfl, rfl⟩ := q
    refine S_X11_getter_51 (by omega) (by omega) (fun g5 => no (fun c => ?_)) (fun g5 => ?_)
    · rcases hbt.mp c.2 with c | c <;> omega
    refine S_X11_getter_54 (d1 := 0) hs (by omega) (by omega) (by rw [p1, p2]; exact c_farFrom w1 w2 (by omega) (by omega) (by omega)) (fun y5 J1 S1 q => ?_)
    obtain ⟨(hy5 : y5 = far h (P k)), rfl, rfl⟩ := q
    refine S_X11_getter_70 (d1 := 0) hs (by omega) (by omega) (by rw [p3, p4]; exact c_farFrom w1 w2 (by omega) (by omega) (by omega)) (fun y6 J1 S1 q => ?_)
    obtain ⟨(hy6 : y6 = far h (P b)), rfl, rfl⟩ := q
    refine S_X11_getter_86 (by omega) (by omega) (fun g6 => no (fun c => ?_)) (fun g6 => yes cc (hbt.mpr (Or.inr ⟨by omega, by omega⟩)))
    rcases hbt.mp c.2 with c | c <;> omega
theorem c_getter {X : CX} {I R D K : PF} {noon hg : Int} {h : Int × Int} {P : Int → Int × Int} (hs : Shp R) (hF : FlM D K noon I) (hG : GD D) (hW : WD D) (hK : KB D K) (hn : bd noon) (hh : I 306 66 = hg) (hb : bd hg) (hP : PosM (D 339 1) P I) (hI : PIn D P) (hq : inQ D h) (h1 : I 306 64 = h.1) (h2 : I 306 65 = h.2) :
    CN X 4 mX11_getter [(2, 306)] I R (fun v I' R' => v.2 = gtr D K noon hg h P (D 339 1).toNat ∧ FR mW I I' ∧ R' = R) := by
  refine callee_b (by decide +kernel) (Nat.le_of_ble_eq_true rfl) rfl ?_
  exact S_X11_getter_0 (get_loop (I0 := I) (h := h) (P := P) hs (Nat.le_refl _) hG hW hK hn hb hI hq (fun I' f => ⟨rfl, f, rfl⟩) _ 0 I (Nat.lt_succ_self _) (by have := hG.2.1; omega) hF hP h1 h2 hh FR.rf)
