/-! ===== hatless ===== -/
noncomputable def htV (D K : PF) : Int := if fI (fun j => thK D K (j.toNat + 1) 348 1 = -1) (min 60 (999 - K 348 0)) = -1 then -1 else fI (fun j => thK D K (j.toNat + 1) 348 1 = -1) (min 60 (999 - K 348 0)) + 1
theorem c_xhatless {X : CX} {I R D : PF} {p o : Int} (hs : Shp R) (hp : Plc R p o) (hT : Tld D p I) (h5 : bd (I 131 5)) :
    CN X 7 mX10_hatless [(2, 64)] I R (fun v I' R' => v.2 = htV D I ∧ bd (I' 131 5) ∧ FR (mRy p) I I' ∧ FR scR R R') := by
  refine callee_b (by decide +kernel) (Nat.le_of_ble_eq_true rfl) rfl ?_
  have p0 := hT.p0
  have h33 := hT.k33
  have kp := (plc_k hp).1
  have hpp := sq_o kp
  obtain ⟨hG, hW, hQ, hL, hST, hK, hS, -⟩ := id hT
  have hD := hG.2.1
  have k1 := hK.1
  have e0 : I 111 0 = I 348 0 := hS.1.1
  refine S_X10_hatless_0 (d1 := 1) hs (by omega) (c_other hs hp hT h5) (fun z3 I3 R3 q => ?_)
  obtain ⟨hA3, f3, rfl⟩ := q
  refine S_X10_hatless_11 ?_
  have lp : ∀ (m k : Nat) (J S : PF), 61 - k < m → (k : Int) ≤ min 60 (999 - I 348 0) → AhC D (thK D I k) p J → FR (mRy p) I J → Shp S → Plc S p o → FR scR R3 S → (∀ j : Int, 0 ≤ j → j < k → ¬ thK D I (j.toNat + 1) 348 1 = -1) → PN X 7 mX10_hatless 13 [(2, 64), (0, (k : Int) + 1)] [] J S (fun v I' R' => v.2 = htV D I ∧ bd (I' 131 5) ∧ FR (mRy p) I I' ∧ FR scR R3 R') := by
    intro m
    induction m with
    | zero => intro k J S h; exact absurd h (Nat.not_lt_zero _)
    | succ m ih =>
      intro k J S hm hk hA hf hsS hpS hfS hj
      have none : min 60 (999 - I 348 0) ≤ k → -1 = htV D I := fun c => by
        have e : fI (fun j => thK D I (j.toNat + 1) 348 1 = -1) (min 60 (999 - I 348 0)) = -1 := fI_none.mpr (fun i i0 i1 => hj i i0 (by omega))
        unfold htV; rw [if_pos e]
      have j0 : J p 0 = D 341 0 := hA.1.1.1
      have j111 : J 111 0 = I 348 0 := (mRy_n hpp hf _ _ (Or.inr (Or.inr (Or.inr (Or.inl rfl)))) (by decide)).trans e0
      have hd := hG.1
      refine S_X10_hatless_13 (by omega) (fun g => S_X10_hatless_64 ⟨none (by omega), hA.2.2.2, hf, hfS⟩) (fun g => ?_)
      refine S_X10_hatless_19 (d1 := 1) (by omega) (c_isAheadX hsS hpS (by unfold inR; omega) (by unfold inR; omega) (by omega)) (fun z J1 S1 q => ?_)
      obtain ⟨(hz : z = _), rfl, rfl⟩ := q
      have b := bi_r (0 < J1 p 0 ∧ 0 ≤ (k : Int) + 1 ∧ (k : Int) + 1 ≤ 60 ∧ J1 111 0 + ((k : Int) + 1) ≤ 999)
      refine S_X10_hatless_24 (by omega) (fun g2 => ?_) (fun g2 => S_X10_hatless_27 ⟨none ?_, hA.2.2.2, hf, hfS⟩)
      · have c := bi_1 (c := 0 < J1 p 0 ∧ 0 ≤ (k : Int) + 1 ∧ (k : Int) + 1 ≤ 60 ∧ J1 111 0 + ((k : Int) + 1) ≤ 999) (by rw [← hz]; exact g2)
        obtain ⟨t1, t2, t3, t4⟩ := thK_ok hG hK h33 k (by omega)
        refine S_X10_hatless_29 (d1 := 6) hsS hpS.1 (by omega) (c_ahead hsS hpS hG hW t1 t3.1 (by omega) hA) (fun z4 J4 S4 q => ?_)
        obtain ⟨q1, q2, q3, q4, q5⟩ := q
        rw [← thK_1] at q1
        obtain ⟨u1, u2', u3, u4⟩ := thK_ok hG hK h33 (k + 1) (by omega)
        have ub := u1.2.1
        have w1 : J4 119 1 = thK D I (k + 1) 348 1 := q1.2.2.1.1.2.1
        refine S_X10_hatless_45 q3 (by omega) (fun g3 => S_X10_hatless_58 ?_) (fun g3 => S_X10_hatless_56 ⟨?_, q1.2.2.2, hf.tr q2, hfS.tr q5⟩)
        · have := ih (k + 1) J4 S4 (by omega) (by omega) q1 (hf.tr q2) q3 q4 (hfS.tr q5) (fun j j0 j1 => ?_)
          · rw [show ((k + 1 : Nat) : Int) = (k : Int) + 1 by omega] at this
            exact this
          · by_cases e : j = k
            · rw [e, show ((k : Int).toNat + 1) = k + 1 by omega]; exact fun c => g3 (w1.trans c)
            · exact hj j j0 (by omega)
        · have e := Fst.fI (P := fun j => thK D I (j.toNat + 1) 348 1 = -1) (n := min 60 (999 - I 348 0)) (r := k) (Or.inr ⟨by omega, by omega, by show thK D I ((k : Int).toNat + 1) 348 1 = -1; rw [show ((k : Int).toNat + 1) = k + 1 by omega]; exact w1.symm.trans g3, hj⟩)
          unfold htV
          rw [← e, if_neg (by omega)]
      · have c := bi_0 (hz.symm.trans g2)
        omega
  exact lp 62 0 I3 R3 (by decide) (by omega) hA3 f3 hs hp FR.rf (fun j j0 j1 => by omega)
theorem c_mhatless {X : CX} {I R D K : PF} (hs : Shp R) (hT : ST D I) (h2 : I 342 = K 342) (h8 : I 348 = K 348) (hG : GD D) (hW : WD D) (hK : KG D K) (h33 : 0 ≤ K 348 33 ∧ K 348 33 ≤ 40) (hsd : sdR (I 306 78)) (h72 : I 306 72 = 0) :
    CN X 7 mX11_hatless [(2, 306)] I R (fun v I' R' => v.2 = htV D K ∧ FR scM I I' ∧ R' = R) := by
  refine callee_b (by decide +kernel) (Nat.le_of_ble_eq_true rfl) rfl ?_
  have k1 := hK.1
  have hD := hG.2.1
  refine S_X11_hatless_0 (by rw [hT.1]; decide) (fun _ => ?_) (fun g => absurd (hT.1.symm.trans g) (by decide))
  refine S_X11_hatless_9 (d1 := 0) (by omega) (c_putsAside hs) (fun z3 I3 R3 q => ?_)
  obtain ⟨q1, q2, q3, rfl⟩ := q
  have hA3 : AhM D K I 0 I3 := AhM.ini hT h2 h8 hsd q1 q2 q3
  refine S_X11_hatless_15 ?_
  have fin : ∀ (J : PF) (k : Nat) (v : Int), AhM D K I k J → v = htV D K → PN X 7 mX11_hatless 63 [(2, 306), (0, v)] [] J R3 (fun v I' R' => v.2 = htV D K ∧ FR scM I I' ∧ R' = R3) := fun J k v hA hv => by
    refine S_X11_hatless_63 (d1 := 0) (by omega) (c_takesBack hs) (fun z5 I5 R5 q => ?_)
    obtain ⟨w1, w2, w3, rfl⟩ := q
    exact S_X11_hatless_67 ⟨hv, hA.back hG h8 h72 w1 w2 w3, rfl⟩
  have lp : ∀ (m k : Nat) (J : PF), 61 - k < m → (k : Int) ≤ min 60 (999 - K 348 0) → AhM D K I k J → (∀ j : Int, 0 ≤ j → j < k → ¬ thK D K (j.toNat + 1) 348 1 = -1) → PN X 7 mX11_hatless 17 [(2, 306), (0, -1), (0, (k : Int) + 1)] [] J R3 (fun v I' R' => v.2 = htV D K ∧ FR scM I I' ∧ R' = R3) := by
    intro m
    induction m with
    | zero => intro k J h; exact absurd h (Nat.not_lt_zero _)
    | succ m ih =>
      intro k J hm hk hA hj
      have none : min 60 (999 - K 348 0) ≤ k → -1 = htV D K := fun c => by
        have e : fI (fun j => thK D K (j.toNat + 1) 348 1 = -1) (min 60 (999 - K 348 0)) = -1 := fI_none.mpr (fun i i0 i1 => hj i i0 (by omega))
        unfold htV; rw [if_pos e]
      obtain ⟨t1, t2, t3, t4⟩ := thK_ok hG hK h33 k (by omega)
      have e0 : J 348 0 = K 348 0 + k := by rw [hA.2.2.1]; exact t2
      refine S_X11_hatless_17 (by omega) (fun g => fin J k _ hA (none (by omega))) (fun g => ?_)
      refine S_X11_hatless_23 (by decide) (fun g2 => absurd rfl g2) (fun _ => ?_)
      refine S_X11_hatless_28 hs (by omega) (fun g2 => fin J k _ hA (none (by omega))) (fun g2 => ?_)
      refine S_X11_hatless_40 (d1 := 6) (by omega) (c_mahead hs hG hW hK h33 (by omega) hA) (fun z4 J4 S4 q => ?_)
      obtain ⟨hA4, rfl⟩ := q
      obtain ⟨u1, u2', u3, u4⟩ := thK_ok hG hK h33 (k + 1) (by omega)
      have ub := u1.2.1
      have w1 : J4 348 1 = thK D K (k + 1) 348 1 := by rw [hA4.2.2.1]
      refine S_X11_hatless_45 hs (by omega) (fun g3 => S_X11_hatless_57 ?_) (fun g3 => S_X11_hatless_55 (S_X11_hatless_57 ?_))
      · have := ih (k + 1) J4 (by omega) (by omega) hA4 (fun j j0 j1 => ?_)
        · rw [show ((k + 1 : Nat) : Int) = (k : Int) + 1 by omega] at this
          exact this
        · by_cases e : j = k
          · rw [e, show ((k : Int).toNat + 1) = k + 1 by omega]; exact fun c => g3 (w1.trans c)
          · exact hj j j0 (by omega)
      · have e := Fst.fI (P := fun j => thK D K (j.toNat + 1) 348 1 = -1) (n := min 60 (999 - K 348 0)) (r := k) (Or.inr ⟨by omega, by omega, by show thK D K ((k : Int).toNat + 1) 348 1 = -1; rw [show ((k : Int).toNat + 1) = k + 1 by omega]; exact w1.symm.trans g3, hj⟩)
        have hv : (k : Int) + 1 = htV D K := by
          unfold htV
          rw [← e, if_neg (by omega)]
        exact S_X11_hatless_17 (by omega) (fun _ => fin J4 (k + 1) _ hA4 hv) (fun _ => S_X11_hatless_23 (by omega) (fun _ => fin J4 (k + 1) _ hA4 hv) (fun c => by omega))
  exact lp 62 0 I3 (by decide) (by omega) hA3 (fun j j0 j1 => by omega)
theorem b_hatless {X : CX} {I R : PF} (h : Sim I R) : Both X 7 7 mX10_hatless mX11_hatless [] I R := by
  obtain ⟨hs, -, -, hm, p, o, hp, hT⟩ := id h
  have h5 := hm.2.2.2.2.2.1
  have hpp := sq_o (plc_k hp).1
  rcases hT with hT | ⟨D, hT⟩
  · have m3 := hT.2.2.2.2.1.2.2.2
    have m0 := hT.2.2.2.2.1.1
    refine callee_b (by decide +kernel) (Nat.le_of_ble_eq_true rfl) rfl ?_
    refine S_X10_hatless_0 (d1 := 1) hs (by omega) (c_copyFrom hs kM119 kM111 (by decide) (by omega)) (fun z3 I3 R3 q => ?_)
    obtain ⟨x0, x1, x2, x3, x4, x5, rfl⟩ := q
    have n : ∀ x y, ¬ stC 119 x y → I3 x y = I x y := x5
    have s3 : Sim I3 R3 := h.sc hp (x5.mono (fun x y c => by
      have c2 : 119 ≤ x ∧ x ≤ 126 := by unfold stC at c; omega
      exact Or.inl (Or.inr (Or.inr (Or.inr (Or.inr (Or.inr (Or.inr (Or.inr (Or.inr (Or.inr (Or.inr (Or.inr (Or.inr (Or.inr (Or.inl c2)))))))))))))))) FR.rf (by rw [n _ _ (fun c => by unfold stC at c; omega)]; exact h5)
    have p0 : I3 p 0 = 0 := (n _ _ (fun c => by unfold stC at c; omega)).trans hT.1.1
    refine S_X10_hatless_11 (S_X10_hatless_13 (by decide) (fun c => absurd c (by decide)) (fun _ => ?_))
    refine S_X10_hatless_19 (d1 := 1) (by omega) (c_isAheadX hs hp (by rw [p0]; decide) (by decide) (by rw [n _ _ (fun c => by unfold stC at c; omega), m0]; decide)) (fun z I4 R4 q => ?_)
    obtain ⟨(hz : z = _), rfl, rfl⟩ := q
    rw [bi_f (fun c => by omega)] at hz
    refine S_X10_hatless_24 (by omega) (fun g => absurd hz g) (fun _ => S_X10_hatless_27 ?_)
    have e55 : I4 306 55 = 0 := (n _ _ (fun c => by unfold stC at c; omega)).trans hT.2.1
    exact callee_b (by decide +kernel) (Nat.le_of_ble_eq_true rfl) rfl (S_X11_hatless_0 (by rw [e55]; decide) (fun g => absurd e55 g) (fun _ => S_X11_hatless_7 ⟨rfl, s3⟩))
  · refine Both.fly (D := D) (u := htV D I) h hp (Callee.mono (c_xhatless hs hp hT h5) (fun v I' R' q => ?_)) hT (fun J S s1 s2 s3 s4 s5 s6 s7 => c_mhatless (K := I) s1 s2 s3 s4 hT.1 hT.2.1 hT.2.2.2.2.2.1 hT.k33 s5 s6)
    obtain ⟨q1, q2, q3, q4⟩ := q
    exact ⟨q1, q2, mRy_sc q3, (mRy_8 hpp q3).1, (mRy_8 hpp q3).2, q4⟩
