/-! ===== change ===== -/
def absI (x : Int) : Int := max x (-x)
def offT (K : PF) (t : Int) : Int := (if wyK K = 0 ∨ t = 0 then (if wyK K = wayT t then 0 else 1) else min (absI (wyK K - wayT t)) (8 - absI (wyK K - wayT t))) + absI (fcK K - fceT t)
/-- the best of the first k: which throw, how far off -/
noncomputable def chB (P : Int → Prop) (f : Int → Int) : Nat → Int × Int
  | 0 => (-1, 0)
  | k + 1 => cif (P k ∧ ((chB P f k).1 = -1 ∨ f k < (chB P f k).2)) ((k : Int), f k) (chB P f k)
theorem chB_r (P : Int → Prop) (f : Int → Int) (hf : ∀ t, 0 ≤ f t ∧ f t ≤ 20) : ∀ k : Nat, (-1 ≤ (chB P f k).1 ∧ (chB P f k).1 < k) ∧ 0 ≤ (chB P f k).2 ∧ (chB P f k).2 ≤ 20
  | 0 => by unfold chB; omega
  | k + 1 => by
    have := chB_r P f hf k
    unfold chB
    by_cases c : P k ∧ ((chB P f k).1 = -1 ∨ f k < (chB P f k).2)
    · rw [cif_t c]; have := hf k; simp only; omega
    · rw [cif_f c]; omega
theorem offT_r {D K : PF} (hK : KG D K) (t : Int) (ht : 0 ≤ t ∧ t < 33) : 0 ≤ offT K t ∧ offT K t ≤ 20 := by
  obtain ⟨⟨w0, w1⟩, f0, f1⟩ := hK.wf
  obtain ⟨a, b, c, d⟩ := wf_r ht
  unfold offT absI
  split
  · split <;> omega
  · omega
noncomputable def chaV (D K : PF) (q w : Int) : Int := if (chB (fun t => whT D K (K 348 0) t = q) (fun t => if 0 ≤ t ∧ t < 33 then offT K t else 0) 33).1 = -1 then -1 else if w = 0 then wayT (chB (fun t => whT D K (K 348 0) t = q) (fun t => if 0 ≤ t ∧ t < 33 then offT K t else 0) 33).1 else if w = 1 then fceT (chB (fun t => whT D K (K 348 0) t = q) (fun t => if 0 ≤ t ∧ t < 33 then offT K t else 0) 33).1 else (chB (fun t => whT D K (K 348 0) t = q) (fun t => if 0 ≤ t ∧ t < 33 then offT K t else 0) 33).2
theorem c_offNow {X : CX} {I R D K : PF} {t : Int} (hs : Shp R) (hG : GD D) (hK : KG D K) (hS : StC D K 111 I) (ht : 0 ≤ t ∧ t < 33) : CN X 2 mX10_offNow [(2, 64), (0, t)] I R (fun v I' R' => v.2 = offT K t ∧ I' = I ∧ R' = R) := by
  refine callee_b (by decide +kernel) (Nat.le_of_ble_eq_true rfl) rfl ?_
  obtain ⟨⟨w0, w1⟩, f0, f1⟩ := hK.wf
  obtain ⟨a, b, c, d⟩ := wf_r ht
  refine S_X10_offNow_0 (d1 := 1) hs (by omega) (c_wayNow hs (Or.inl rfl) hG hK hS) (fun z I1 R1 r => ?_)
  obtain ⟨(hz : z = _), rfl, rfl⟩ := r
  refine S_X10_offNow_7 (d1 := 0) (by omega) (c_wayOf ht) (fun z2 I1 R1 r => ?_)
  obtain ⟨(hz2 : z2 = _), rfl, rfl⟩ := r
  refine S_X10_offNow_13 (d1 := 0) (by omega) (c_abs (by omega)) (fun z3 I1 R1 r => ?_)
  obtain ⟨(hz3 : z3 = _), rfl, rfl⟩ := r
  have t0 : t = 0 ↔ wayT t = 0 := by unfold wayT; split <;> omega
  have at32 : ∀ y, y = (if wyK K = 0 ∨ t = 0 then min (absI (wyK K - wayT t)) 1 else absI (wyK K - wayT t)) → PN X 2 mX10_offNow 32 [(2, 64), (0, t), (9, 0), (0, y)] [] I1 R1 (fun v I' R' => v.2 = offT K t ∧ I' = I1 ∧ R' = R1) := fun y hy => by
    have yr : 0 ≤ y ∧ y ≤ 8 := by rw [hy]; unfold absI; split <;> omega
    refine S_X10_offNow_32 (d1 := 0) (by omega) (c_min (by unfold inR; omega) (by unfold inR; omega)) (fun z4 I2 R2 r => ?_)
    obtain ⟨(hz4 : z4 = _), rfl, rfl⟩ := r
    refine S_X10_offNow_40 (d1 := 1) hs (by omega) (c_forceNow hs (Or.inl rfl) hG hK hS) (fun z5 I2 R2 r => ?_)
    obtain ⟨(hz5 : z5 = _), rfl, rfl⟩ := r
    refine S_X10_offNow_47 (d1 := 0) (by omega) (c_forceOf ht) (fun z6 I2 R2 r => ?_)
    obtain ⟨(hz6 : z6 = _), rfl, rfl⟩ := r
    refine S_X10_offNow_51 (d1 := 0) (by omega) (c_abs (by omega)) (fun z7 I2 R2 r => ?_)
    obtain ⟨(hz7 : z7 = _), rfl, rfl⟩ := r
    refine S_X10_offNow_55 ⟨?_, rfl, rfl⟩
    show z4 + z7 = _
    unfold offT
    unfold absI at hy ⊢
    by_cases c : wyK K = 0 ∨ t = 0
    · rw [if_pos c] at hy ⊢
      by_cases c2 : wyK K = wayT t
      · rw [if_pos c2]; omega
      · rw [if_neg c2]; omega
    · rw [if_neg c] at hy ⊢
      omega
  have z3e : z3 = absI (wyK K - wayT t) := by unfold absI; omega
  refine S_X10_offNow_17 (by omega) (fun g => ?_) (fun g => S_X10_offNow_22 (by omega) (fun g2 => at32 _ (by rw [if_neg (by omega)]; exact z3e)) (fun g2 => ?_))
  · refine S_X10_offNow_26 (d1 := 0) (by omega) (c_min (by unfold absI at z3e; unfold inR; omega) (by decide)) (fun z4 I2 R2 r => ?_)
    obtain ⟨(hz4 : z4 = _), rfl, rfl⟩ := r
    exact S_X10_offNow_31 (at32 _ (by rw [if_pos (by omega), ← z3e]; exact hz4))
  · refine S_X10_offNow_26 (d1 := 0) (by omega) (c_min (by unfold absI at z3e; unfold inR; omega) (by decide)) (fun z4 I2 R2 r => ?_)
    obtain ⟨(hz4 : z4 = _), rfl, rfl⟩ := r
    exact S_X10_offNow_31 (at32 _ (by rw [if_pos (by omega), ← z3e]; exact hz4))
theorem c_off {X : CX} {I R D K : PF} {t : Int} (hK : KG D K) (ht : 0 ≤ t ∧ t < 33) : CN X 1 mX11_off [(0, wyK K), (0, fcK K), (0, t)] I R (fun v I' R' => v.2 = offT K t ∧ I' = I ∧ R' = R) := by
  refine callee_b (by decide +kernel) (Nat.le_of_ble_eq_true rfl) rfl ?_
  obtain ⟨⟨w0, w1⟩, f0, f1⟩ := hK.wf
  obtain ⟨a, b, c, d⟩ := wf_r ht
  have t0 : t = 0 ↔ wayT t = 0 := by unfold wayT; split <;> omega
  refine S_X11_off_0 (d1 := 0) (by omega) (c_mwayOf ht) (fun z I1 R1 r => ?_)
  obtain ⟨(hz : z = _), rfl, rfl⟩ := r
  rw [hz]
  have at57 : ∀ y, y + absI (fcK K - fceT t) = offT K t → PN X 1 mX11_off 57 [(9, 0), (0, fcK K), (0, t), (9, 0), (0, y)] [] I1 R1 (fun v I' R' => v.2 = offT K t ∧ I' = I1 ∧ R' = R1) := fun y hy => by
    unfold absI at hy
    refine S_X11_off_57 (d1 := 0) (by omega) (c_mforceOf ht) (fun z2 I2 R2 r => ?_)
    obtain ⟨(hz2 : z2 = _), rfl, rfl⟩ := r
    refine S_X11_off_62 (by omega) (by omega) (fun g => ?_) (fun g => ?_)
    · refine S_X11_off_74 (d1 := 0) (by omega) (c_mforceOf ht) (fun z3 I2 R2 r => ?_)
      obtain ⟨(hz3 : z3 = _), rfl, rfl⟩ := r
      exact S_X11_off_79 (S_X11_off_80 ⟨by show y + (fcK K - z3) = _; omega, rfl, rfl⟩)
    · refine S_X11_off_65 (d1 := 0) (by omega) (c_mforceOf ht) (fun z3 I2 R2 r => ?_)
      obtain ⟨(hz3 : z3 = _), rfl, rfl⟩ := r
      exact S_X11_off_69 (S_X11_off_80 ⟨by show y + (z3 - fcK K) = _; omega, rfl, rfl⟩)
  have at29 : wyK K = 0 ∨ t = 0 → PN X 1 mX11_off 29 [(0, wyK K), (0, fcK K), (0, t), (0, wayT t)] [] I1 R1 (fun v I' R' => v.2 = offT K t ∧ I' = I1 ∧ R' = R1) := fun hc => by
    refine S_X11_off_29 (by omega) (by omega) (fun g => S_X11_off_38 (S_X11_off_39 (at57 1 ?_))) (fun g => S_X11_off_34 (S_X11_off_39 (at57 0 ?_)))
    · unfold offT; rw [if_pos hc, if_neg g]
    · unfold offT; rw [if_pos hc, if_pos g]
  have at19 : ∀ y, y = absI (wyK K - wayT t) → PN X 1 mX11_off 19 [(0, wyK K), (0, fcK K), (0, t), (0, wayT t)] [(0, y)] I1 R1 (fun v I' R' => v.2 = offT K t ∧ I' = I1 ∧ R' = R1) := fun y hy => by
    refine S_X11_off_19 (by omega) (fun g => at29 (Or.inl g)) (fun g => ?_)
    refine S_X11_off_25 (by omega) (fun g2 => ?_) (fun g2 => at29 (Or.inr (t0.mpr g2)))
    have e : offT K t = min y (8 - y) + absI (fcK K - fceT t) := by unfold offT; rw [if_neg (by omega), hy]
    have yr : 0 ≤ y ∧ y ≤ 8 := by rw [hy]; unfold absI; omega
    refine S_X11_off_44 (by omega) (fun g3 => at57 y ?_) (fun g3 => S_X11_off_50 (at57 (8 - y) ?_))
    · rw [e]; omega
    · rw [e]; omega
  refine S_X11_off_4 (by omega) (by omega) (fun g => S_X11_off_16 (at19 _ ?_)) (fun g => S_X11_off_10 (at19 _ ?_))
  · unfold absI; omega
  · unfold absI; omega
theorem c_xchange {X : CX} {I R D : PF} {p o q w : Int} (hs : Shp R) (hp : Plc R p o) (hT : Tld D p I) (h5 : bd (I 131 5)) (hq : 0 ≤ q ∧ q < D 339 1) (hw : 0 ≤ w ∧ w ≤ 2) :
    CN X 8 mX10_change [(2, 64), (0, q), (0, w)] I R (fun v I' R' => v.2 = chaV D I q w ∧ bd (I' 131 5) ∧ FR (mQy p) I I' ∧ FR scR R R') := by
  refine callee_b (by decide +kernel) (Nat.le_of_ble_eq_true rfl) rfl ?_
  have kp := (plc_k hp).1
  have hpp : p = 72 ∨ p = 91 := sq_o kp
  obtain ⟨hG, hW, hQ, hL, hST, hK, hS, -⟩ := id hT
  have hD := hG.2.1
  have k1 := hK.1
  have e0 : I 111 0 = I 348 0 := hS.1.1
  have e3 : I 111 3 = D 339 1 := hS.1.2.2.2
  refine S_X10_change_0 (d1 := 0) hs (by omega) (c_knows kM111 (by unfold inR; omega) (by unfold inR; omega)) (fun z I1 R1 r => ?_)
  obtain ⟨(hz : z = _), rfl, rfl⟩ := r
  rw [bi_t (by omega)] at hz
  refine S_X10_change_8 (by omega) (fun g => by omega) (fun _ => ?_)
  refine S_X10_change_11 (by omega) (fun g => by omega) (fun _ => S_X10_change_15 (by omega) (fun _ => ?_) (fun g => by omega))
  refine S_X10_change_22 (d1 := 2) hs hp.1 (by omega) (c_ready hs hp hT h5) (fun z3 I3 R3 r => ?_)
  obtain ⟨hF, hN, f3, hs3, r0, r1, r2, fR, hp3⟩ := r
  rw [e0] at hF hN
  have hbn : bd (I1 348 0) := by unfold bd; omega
  have fr : ∀ t, 0 ≤ (if 0 ≤ t ∧ t < 33 then offT I1 t else 0) ∧ (if 0 ≤ t ∧ t < 33 then offT I1 t else 0) ≤ 20 := fun t => by
    by_cases c : 0 ≤ t ∧ t < 33
    · rw [if_pos c]; exact offT_r hK t c
    · rw [if_neg c]; decide
  have lp : ∀ (m k : Nat) (J : PF), 33 - k < m → k ≤ 33 → ClF D I1 (I1 348 0) p 111 J → WhF D I1 (I1 348 0) J → FR (mGt p) I3 J → PN X 8 mX10_change 53 [(2, 64), (0, q), (0, w), (0, (chB (fun t => whT D I1 (I1 348 0) t = q) (fun t => if 0 ≤ t ∧ t < 33 then offT I1 t else 0) k).1), (0, (chB (fun t => whT D I1 (I1 348 0) t = q) (fun t => if 0 ≤ t ∧ t < 33 then offT I1 t else 0) k).2), (0, (k : Int))] [] J R3 (fun v I' R' => v.2 = chaV D I1 q w ∧ bd (I' 131 5) ∧ FR (mQy p) I1 I' ∧ FR scR R1 R') := by
    intro m
    induction m with
    | zero => intro k J h; exact absurd h (Nat.not_lt_zero _)
    | succ m ih =>
      intro k J hm hk hFJ hNJ hfJ
      have cr := chB_r (fun t => whT D I1 (I1 348 0) t = q) (fun t => if 0 ≤ t ∧ t < 33 then offT I1 t else 0) fr k
      refine S_X10_change_53 (by omega) (fun g => ?_) (fun g => ?_)
      · obtain rfl : k = 33 := by omega
        have fin : ∀ v, v = chaV D I1 q w → (v = chaV D I1 q w ∧ bd (J 131 5) ∧ FR (mQy p) I1 J ∧ FR scR R1 R3) := fun v hv => ⟨hv, hFJ.2.2.2.1.2, (mPr_Qy f3).tr (mGt_Qy hfJ), fR⟩
        unfold chaV at fin ⊢
        generalize chB (fun t => whT D I1 (I1 348 0) t = q) (fun t => if 0 ≤ t ∧ t < 33 then offT I1 t else 0) 33 = b at *
        refine S_X10_change_106 (by omega) (fun g2 => ?_) (fun g2 => S_X10_change_111 (fin _ (by rw [if_pos g2])))
        refine S_X10_change_113 (by omega) (fun g3 => ?_) (fun g3 => S_X10_change_118 (fin _ (by rw [if_neg g2, if_neg (by omega), if_neg (by omega)])))
        have hb : 0 ≤ b.1 ∧ b.1 < 33 := by omega
        refine S_X10_change_121 (by omega) (fun g4 => ?_) (fun g4 => ?_)
        · refine S_X10_change_132 (d1 := 0) (by omega) (c_forceOf hb) (fun z4 I4 R4 r => ?_)
          obtain ⟨(hz4 : z4 = _), rfl, rfl⟩ := r
          exact S_X10_change_136 (fin _ (by rw [if_neg g2, if_neg g4, if_pos (by omega)]; exact hz4))
        · refine S_X10_change_125 (d1 := 0) (by omega) (c_wayOf hb) (fun z4 I4 R4 r => ?_)
          obtain ⟨(hz4 : z4 = _), rfl, rfl⟩ := r
          exact S_X10_change_129 (S_X10_change_136 (fin _ (by rw [if_neg g2, if_pos g4]; exact hz4)))
      have ht : 0 ≤ (k : Int) ∧ (k : Int) < 33 := by omega
      have or := offT_r hK k ht
      have nx := ih (k + 1)
      rw [show ((k + 1 : Nat) : Int) = (k : Int) + 1 by omega] at nx
      have ek : (if 0 ≤ (k : Int) ∧ (k : Int) < 33 then offT I1 k else 0) = offT I1 k := if_pos ht
      have eC : chB (fun t => whT D I1 (I1 348 0) t = q) (fun t => if 0 ≤ t ∧ t < 33 then offT I1 t else 0) (k + 1) = cif (whT D I1 (I1 348 0) k = q ∧ ((chB (fun t => whT D I1 (I1 348 0) t = q) (fun t => if 0 ≤ t ∧ t < 33 then offT I1 t else 0) k).1 = -1 ∨ offT I1 k < (chB (fun t => whT D I1 (I1 348 0) t = q) (fun t => if 0 ≤ t ∧ t < 33 then offT I1 t else 0) k).2)) ((k : Int), offT I1 k) (chB (fun t => whT D I1 (I1 348 0) t = q) (fun t => if 0 ≤ t ∧ t < 33 then offT I1 t else 0) k) := by
        show cif _ _ _ = _
        simp only [ek]
      rw [eC] at nx
      refine S_X10_change_60 (d1 := 2) (by omega) (c_offNow hs3 hG hK hFJ.2.2.1 ht) (fun z4 J1 S1 r => ?_)
      obtain ⟨(hz4 : z4 = _), rfl, rfl⟩ := r
      rw [hz4]
      generalize chB (fun t => whT D I1 (I1 348 0) t = q) (fun t => if 0 ≤ t ∧ t < 33 then offT I1 t else 0) k = b at *
      have at80 : (b.1 = -1 ∨ offT I1 k < b.2) → PN X 8 mX10_change 80 [(2, 64), (0, q), (0, w), (0, b.1), (0, b.2), (0, (k : Int)), (0, offT I1 k)] [] J1 S1 (fun v I' R' => v.2 = chaV D I1 q w ∧ bd (I' 131 5) ∧ FR (mQy p) I1 I' ∧ FR scR R1 R') := fun hb => by
        refine S_X10_change_80 (d1 := 6) hs3 (by omega) (c_got (K := I1) (noon := I1 348 0) (s := 111) hs3 r0 kp r1 r2 (Or.inl rfl) hG hW hK hbn hFJ hNJ ht) (fun z5 J2 S2 r => ?_)
        obtain ⟨(hz5 : z5 = _), q5, q6, q7, rfl⟩ := r
        have wr := whoA_r (K := I1) (noon := I1 348 0) hG (lnd D k)
        have n2 := nx J2 (by omega) (by omega) q5 q6 (hfJ.tr q7)
        refine S_X10_change_89 (by omega) (by omega) (fun g2 => ?_) (fun g2 => ?_)
        · rw [cif_f (fun c => g2 (hz5.trans c.1))] at n2
          exact S_X10_change_100 n2
        · rw [cif_t ⟨hz5.symm.trans g2, hb⟩] at n2
          exact S_X10_change_93 (S_X10_change_100 n2)
      refine S_X10_change_66 (by omega) (fun g2 => at80 (Or.inl g2)) (fun g2 => ?_)
      refine S_X10_change_73 (by omega) (by omega) (fun g3 => ?_) (fun g3 => at80 (Or.inr g3))
      have n2 := nx J1 (by omega) (by omega) hFJ hNJ hfJ
      rw [cif_f (fun c => by rcases c.2 with c | c <;> omega)] at n2
      exact S_X10_change_100 n2
  exact S_X10_change_45 (lp 34 0 I3 (by decide) (by decide) hF hN FR.rf)
theorem c_xchange0 {X : CX} {I R : PF} {q w : Int} (hs : Shp R) (hq : inR q) (hw : inR w) (h3 : inR (I 111 3)) (hc : ¬ ((0 ≤ q ∧ q < I 111 3) ∧ 0 ≤ w ∧ w ≤ 2)) : CN X 8 mX10_change [(2, 64), (0, q), (0, w)] I R (fun v I' R' => v.2 = -1 ∧ I' = I ∧ R' = R) := by
  refine callee_b (by decide +kernel) (Nat.le_of_ble_eq_true rfl) rfl ?_
  have no : PN X 8 mX10_change 20 [] [] I R (fun v I' R' => v.2 = -1 ∧ I' = I ∧ R' = R) := S_X10_change_20 ⟨rfl, rfl, rfl⟩
  refine S_X10_change_0 (d1 := 0) hs (by omega) (c_knows kM111 hq h3) (fun z I1 R1 r => ?_)
  obtain ⟨(hz : z = _), rfl, rfl⟩ := r
  have b := bi_r (0 ≤ q ∧ q < I1 111 3)
  refine S_X10_change_8 (by omega) (fun _ => no) (fun g => ?_)
  have c := bi_1 (by rw [← hz]; exact g)
  exact S_X10_change_11 hw (fun _ => no) (fun g1 => S_X10_change_15 hw (fun g2 => absurd ⟨c, g1, g2⟩ hc) (fun _ => no))
theorem c_mchange {X : CX} {I R D K : PF} {q w : Int} (hs : Shp R) (hT : ST D I) (h2 : I 342 = K 342) (h8 : I 348 = K 348) (hG : GD D) (hW : WD D) (hK : KG D K) (hsd : sdR (I 306 78)) (hq : 0 ≤ q ∧ q < D 339 1) (hw : 0 ≤ w ∧ w ≤ 2) :
    CN X 7 mX11_change [(2, 306), (0, q), (0, w)] I R (fun v I' R' => v.2 = chaV D K q w ∧ FR scM I I' ∧ R' = R) := by
  refine callee_b (by decide +kernel) (Nat.le_of_ble_eq_true rfl) rfl ?_
  have hD := hG.2.1
  have k1 := hK.1
  have k2 := hK.2.1
  have e4 : I 339 4 = D 339 1 := hT.sq.2.2.2.1
  have e1 : I 348 1 = K 348 1 := by rw [h8]
  obtain ⟨⟨w0, w1⟩, f0, f1⟩ := hK.wf
  refine S_X11_change_0 (d1 := 2) (by omega) (c_isPerson hs (by unfold inR; omega) (by omega)) (fun z I1 R1 r => ?_)
  obtain ⟨(hz : z = _), rfl, rfl⟩ := r
  rw [bi_t (by omega)] at hz
  refine S_X11_change_5 (by omega) (fun g => by omega) (fun _ => ?_)
  refine S_X11_change_8 (d1 := 1) (by omega) (by omega) (c_isIn (by unfold inR; omega) (by decide) (by decide)) (fun z2 I2 R2 r => ?_)
  obtain ⟨(hz2 : z2 = _), rfl, rfl⟩ := r
  rw [bi_t (by omega)] at hz2
  refine S_X11_change_17 (by omega) (fun _ => ?_) (fun g => by omega)
  have fr : ∀ t, 0 ≤ (if 0 ≤ t ∧ t < 33 then offT K t else 0) ∧ (if 0 ≤ t ∧ t < 33 then offT K t else 0) ≤ 20 := fun t => by
    by_cases c : 0 ≤ t ∧ t < 33
    · rw [if_pos c]; exact offT_r hK t c
    · rw [if_neg c]; decide
  have lp : ∀ (m k : Nat) (J : PF), 33 - k < m → k ≤ 33 → MdK D K I2 J → PN X 7 mX11_change 96 [(2, 306), (0, q), (0, w), (0, wyK K), (0, fcK K), (0, (chB (fun t => whT D K (K 348 0) t = q) (fun t => if 0 ≤ t ∧ t < 33 then offT K t else 0) k).1), (0, (chB (fun t => whT D K (K 348 0) t = q) (fun t => if 0 ≤ t ∧ t < 33 then offT K t else 0) k).2), (0, (k : Int))] [] J R2 (fun v I' R' => v.2 = chaV D K q w ∧ FR scM I2 I' ∧ R' = R2) := by
    intro m
    induction m with
    | zero => intro k J h; exact absurd h (Nat.not_lt_zero _)
    | succ m ih =>
      intro k J hm hk hM
      have cr := chB_r (fun t => whT D K (K 348 0) t = q) (fun t => if 0 ≤ t ∧ t < 33 then offT K t else 0) fr k
      refine S_X11_change_96 (by omega) (fun g => ?_) (fun g => ?_)
      · obtain rfl : k = 33 := by omega
        have fin : ∀ v, v = chaV D K q w → (v = chaV D K q w ∧ FR scM I2 J ∧ R2 = R2) := fun v hv => ⟨hv, hM.2.2.2.1, rfl⟩
        unfold chaV at fin ⊢
        generalize chB (fun t => whT D K (K 348 0) t = q) (fun t => if 0 ≤ t ∧ t < 33 then offT K t else 0) 33 = b at *
        refine S_X11_change_173 (by omega) (fun g2 => ?_) (fun g2 => S_X11_change_179 (S_X11_change_210 (fin _ (by rw [if_pos g2]))))
        have hb : 0 ≤ b.1 ∧ b.1 < 33 := by omega
        refine S_X11_change_183 (by omega) (fun g3 => ?_) (fun g3 => ?_)
        · refine S_X11_change_195 (by omega) (fun g4 => S_X11_change_208 (S_X11_change_210 (fin _ (by rw [if_neg g2, if_neg g3, if_neg g4])))) (fun g4 => ?_)
          refine S_X11_change_200 (d1 := 0) (by omega) (c_mforceOf hb) (fun z4 I4 R4 r => ?_)
          obtain ⟨(hz4 : z4 = _), rfl, rfl⟩ := r
          exact S_X11_change_205 (S_X11_change_210 (fin _ (by rw [if_neg g2, if_neg g3, if_pos g4]; exact hz4)))
        · refine S_X11_change_187 (d1 := 0) (by omega) (c_mwayOf hb) (fun z4 I4 R4 r => ?_)
          obtain ⟨(hz4 : z4 = _), rfl, rfl⟩ := r
          exact S_X11_change_192 (S_X11_change_210 (fin _ (by rw [if_neg g2, if_pos g3]; exact hz4)))
      have ht : 0 ≤ (k : Int) ∧ (k : Int) < 33 := by omega
      have or := offT_r hK k ht
      have nx := ih (k + 1)
      rw [show ((k + 1 : Nat) : Int) = (k : Int) + 1 by omega] at nx
      have ek : (if 0 ≤ (k : Int) ∧ (k : Int) < 33 then offT K k else 0) = offT K k := if_pos ht
      have eC : chB (fun t => whT D K (K 348 0) t = q) (fun t => if 0 ≤ t ∧ t < 33 then offT K t else 0) (k + 1) = cif (whT D K (K 348 0) k = q ∧ ((chB (fun t => whT D K (K 348 0) t = q) (fun t => if 0 ≤ t ∧ t < 33 then offT K t else 0) k).1 = -1 ∨ offT K k < (chB (fun t => whT D K (K 348 0) t = q) (fun t => if 0 ≤ t ∧ t < 33 then offT K t else 0) k).2)) ((k : Int), offT K k) (chB (fun t => whT D K (K 348 0) t = q) (fun t => if 0 ≤ t ∧ t < 33 then offT K t else 0) k) := by
        show cif _ _ _ = _
        simp only [ek]
      rw [eC] at nx
      refine S_X11_change_103 (d1 := 0) (by omega) (c_mwayOf ht) (fun a J1 S1 r => ?_)
      obtain ⟨(ha : a = _), rfl, rfl⟩ := r
      refine S_X11_change_109 (d1 := 0) (by omega) (c_mforceOf ht) (fun b J1 S1 r => ?_)
      obtain ⟨(hb : b = _), rfl, rfl⟩ := r
      rw [ha, hb]
      refine S_X11_change_114 (d1 := 6) hs (by omega) (by rw [hM.2.2.1]; exact c_tossT (K := K) hs hM.1 hM.2.1 hM.2.2.1 hG hW hK (by unfold bd; omega) ht hM.2.2.2.2) (fun c J2 S2 r => ?_)
      obtain ⟨r1, r2, r3, rfl⟩ := r
      have hM2 := hM.st r3 r2
      have wr := whoA_r (K := K) (noon := K 348 0) hG (lnd D k)
      have n2 := nx J2 (by omega) (by omega) hM2
      generalize chB (fun t => whT D K (K 348 0) t = q) (fun t => if 0 ≤ t ∧ t < 33 then offT K t else 0) k = b at *
      refine S_X11_change_123 (by rw [r1]; omega) (by omega) (fun g2 => ?_) (fun g2 => ?_)
      · rw [cif_f (fun c => g2 (r1.trans c.1))] at n2
        exact S_X11_change_167 n2
      have y : whT D K (K 348 0) k = q := r1.symm.trans g2
      have at153 : (b.1 = -1 ∨ offT K k < b.2) → PN X 7 mX11_change 153 [(2, 306), (0, q), (0, w), (0, wyK K), (0, fcK K), (9, 0), (9, 0), (0, (k : Int))] [] J2 S2 (fun v I' R' => v.2 = chaV D K q w ∧ FR scM I2 I' ∧ R' = S2) := fun hb => by
        refine S_X11_change_153 (d1 := 1) (by omega) (c_off hK ht) (fun c J3 S3 r => ?_)
        obtain ⟨(hc : c = _), rfl, rfl⟩ := r
        rw [cif_t ⟨y, hb⟩] at n2
        refine S_X11_change_165 (S_X11_change_167 ?_)
        rw [hc]; exact n2
      refine S_X11_change_131 (by omega) (fun g3 => at153 (Or.inl g3)) (fun g3 => ?_)
      refine S_X11_change_137 (d1 := 1) (by omega) (c_off hK ht) (fun c J3 S3 r => ?_)
      obtain ⟨(hc : c = _), rfl, rfl⟩ := r
      refine S_X11_change_145 (by omega) (by omega) (fun g4 => at153 (Or.inr (by omega))) (fun g4 => ?_)
      rw [cif_f (fun c => by rcases c.2 with c | c <;> omega)] at n2
      exact S_X11_change_150 (S_X11_change_167 n2)
  have ini := lp 34 0 I2 (by decide) (by decide) ⟨hT, h2, h8, FR.rf, hsd⟩
  refine S_X11_change_22 hs (by omega) (fun g => ?_) (fun g => ?_)
  · rw [e1] at g
    refine S_X11_change_36 hs (by omega) (S_X11_change_53 hs (by omega) (fun _ => S_X11_change_68 hs (by omega) (S_X11_change_85 ?_)) (fun c => absurd (e1.symm.trans c) g))
    rw [show I2 348 (3 + 5 * I2 348 1 + 2) = wyK K by unfold wyK; rw [if_neg g, h8], show I2 348 (3 + 5 * I2 348 1 + 3) = fcK K by unfold fcK; rw [if_neg g, h8]]
    exact ini
  · rw [e1] at g
    refine S_X11_change_32 (S_X11_change_53 hs (by omega) (fun c => absurd (e1.trans g) c) (fun _ => S_X11_change_64 (S_X11_change_85 ?_)))
    rw [show wyK K = 0 by unfold wyK; rw [if_pos g], show fcK K = 0 by unfold fcK; rw [if_pos g]] at ini
    exact ini
theorem c_mchange0 {X : CX} {I R : PF} {q w : Int} (hs : Shp R) (hq : inR q) (hw : inR w) (hn : 0 ≤ I 339 4 ∧ I 339 4 ≤ 6) (hc : ¬ ((0 ≤ q ∧ q < I 339 4) ∧ 0 ≤ w ∧ w ≤ 2)) : CN X 7 mX11_change [(2, 306), (0, q), (0, w)] I R (fun v I' R' => v.2 = -1 ∧ I' = I ∧ R' = R) := by
  refine callee_b (by decide +kernel) (Nat.le_of_ble_eq_true rfl) rfl ?_
  have no : PN X 7 mX11_change 20 [] [] I R (fun v I' R' => v.2 = -1 ∧ I' = I ∧ R' = R) := S_X11_change_20 ⟨rfl, rfl, rfl⟩
  refine S_X11_change_0 (d1 := 2) (by omega) (c_isPerson hs hq hn) (fun z I1 R1 r => ?_)
  obtain ⟨(hz : z = _), rfl, rfl⟩ := r
  have b := bi_r (0 ≤ q ∧ q < I1 339 4)
  refine S_X11_change_5 (by omega) (fun _ => no) (fun g => ?_)
  have c := bi_1 (by rw [← hz]; exact g)
  refine S_X11_change_8 (d1 := 1) hw (by omega) (c_isIn hw (by decide) (by decide)) (fun z2 I2 R2 r => ?_)
  obtain ⟨(hz2 : z2 = _), rfl, rfl⟩ := r
  have b2 := bi_r (0 ≤ w ∧ w ≤ 2)
  refine S_X11_change_17 (by omega) (fun g2 => ?_) (fun _ => no)
  exact absurd ⟨c, bi_1 (by rw [← hz2]; exact g2)⟩ hc
theorem b_change {X : CX} {I R : PF} {q w : Int} (h : Sim I R) (hq : inR q) (hw : inR w) : Both X 8 7 mX10_change mX11_change [(0, q), (0, w)] I R := by
  obtain ⟨hs, -, -, hm, p, o, hp, hT⟩ := id h
  have hv := h.vw hp
  have b4 := hv.2.1.2.2.2
  have r := hv.2.2.2.2.2.2.1
  by_cases hc : (0 ≤ q ∧ q < I 339 4) ∧ 0 ≤ w ∧ w ≤ 2
  · rcases hT with hT | ⟨D, hT⟩
    · have := hT.2.2.2.1.2.1; omega
    have e4 : I 339 4 = D 339 1 := hT.2.2.2.2.1.sq.2.2.2.1
    have hpp : p = 72 ∨ p = 91 := by rcases hp.2.2 with ⟨c, -⟩ | ⟨c, -⟩ <;> omega
    refine Both.fly (D := D) (u := chaV D I q w) h hp (Callee.mono (c_xchange hs hp hT hm.2.2.2.2.2.1 ⟨hc.1.1, by omega⟩ hc.2) (fun v I' R' q => ?_)) hT (fun J S s1 s2 s3 s4 s5 s6 s7 => c_mchange (K := I) s1 s2 s3 s4 hT.1 hT.2.1 hT.2.2.2.2.2.1 s5 ⟨hc.1.1, by omega⟩ hc.2)
    obtain ⟨q1, q2, q3, q4⟩ := q
    exact ⟨q1, q2, mQy_sc q3, (mQy_8 hpp q3).1, (mQy_8 hpp q3).2, q4⟩
  · exact Both.same h (c_xchange0 hs hq hw (by unfold inR; omega) (by omega)) (c_mchange0 hs hq hw (by omega) hc)
