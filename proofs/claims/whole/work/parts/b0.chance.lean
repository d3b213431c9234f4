/-! ===== chance, undo ===== -/
theorem c_mchance {X : CX} {I J R D : PF} {n sd : Int} (hs : Shp R) (hT : ST D J) (h2 : J 342 = I 342) (h8 : J 348 = I 348) (hG : GD D) (hW : WD D) (hK : KG D I) (h33 : 0 ≤ I 348 33 ∧ I 348 33 ≤ 40) (h78 : J 306 78 = sd) (hsd : sdR sd) (h72 : J 306 72 = 0) (h77 : 0 ≤ J 306 77 ∧ J 306 77 < 20) (h76 : 0 ≤ J 306 76 ∧ J 306 76 ≤ 20) (hn : 1 ≤ n ∧ n ≤ 100 ∧ I 348 0 + n ≤ 999) :
    CN X 7 mX11_chance [(2, 306), (0, n)] J R (fun v I' R' => v.2 = (sqF true D 1 n.toNat (I, sd, 0)).2.2 ∧ (∃ Jb, KepP J Jb ∧ MdN D I (sqF true D 1 n.toNat (I, sd, 0)) Jb I') ∧ R' = R) := by
  refine callee_b (by decide +kernel) (Nat.le_of_ble_eq_true rfl) rfl ?_
  have k0 := hK.1
  refine S_X11_chance_0 (by rw [hT.1]; decide) (fun g => absurd (hT.1.symm.trans g) (by decide)) (fun _ => ?_)
  refine S_X11_chance_7 (d1 := 2) (by omega) (c_isAheadM hs (by unfold inR; omega) (by decide) (by decide) (by decide) (by decide) (by rw [h8]; omega)) (fun z I1 R1 q => ?_)
  obtain ⟨(hz : z = _), rfl, rfl⟩ := q
  rw [bi_t (by rw [h8]; exact hn)] at hz
  refine S_X11_chance_15 (by omega) (fun _ => ?_) (fun g => by omega)
  refine S_X11_chance_24 (d1 := 0) (by omega) (c_keeps hs h77 h76) (fun z2 Jb R2 r => ?_)
  obtain ⟨k1, k2, k3, k4, rfl⟩ := r
  have e0 : ∀ x y, ¬ keM ((I1 306 77 + 1) % 20) x y → Jb x y = I1 x y := k4
  have en : ∀ x y, ¬ ((x = 306 ∧ (y = 76 ∨ y = 77)) ∨ x = 354) → Jb x y = I1 x y := fun x y c => e0 x y (fun d => by unfold keM at d; omega)
  have f71 : FR mNo Jb (u2 Jb 306 71 0) := FR_u2 (Or.inl (Or.inl (Or.inr (Or.inr (Or.inr ⟨rfl, by decide⟩)))))
  have eu : ∀ x y, ¬ (x = 306 ∧ y = 71) → u2 Jb 306 71 0 x y = Jb x y := fun x y c => if_neg c
  have eb : ∀ x y, ¬ ((x = 306 ∧ (y = 76 ∨ y = 77 ∨ y = 71)) ∨ x = 354) → u2 Jb 306 71 0 x y = I1 x y := fun x y c => (eu x y (by omega)).trans (en x y (by omega))
  have lp : ∀ (f k : Nat) (J : PF), n.toNat - k < f → k ≤ n.toNat → MdN D I (sqF true D 1 k (I, sd, 0)) Jb J →
      PN X 7 mX11_chance 35 [(2, 306), (0, n), (0, (k : Int))] [] J R2 (fun v I' R' => v.2 = (sqF true D 1 n.toNat (I, sd, 0)).2.2 ∧ (∃ Jb, KepP I1 Jb ∧ MdN D I (sqF true D 1 n.toNat (I, sd, 0)) Jb I') ∧ R' = R2) := by
    intro f
    induction f with
    | zero => intro k J h; exact absurd h (Nat.not_lt_zero _)
    | succ f ih =>
      intro k J hf hk hM
      refine S_X11_chance_35 (by omega) (by omega) (fun g => ?_) (fun g => ?_)
      · obtain rfl : k = n.toNat := by omega
        exact S_X11_chance_51 ⟨hM.2.2.2.2.1, ⟨Jb, ⟨k1, k2, k3, k4⟩, hM⟩, rfl⟩
      refine S_X11_chance_40 (d1 := 6) (by omega) (c_mstepN hs hG hW hK h33 hsd (Or.inr rfl) (by omega) hM) (fun z3 J3 R3 r => ?_)
      obtain ⟨hM3, rfl⟩ := r
      have nx := ih (k + 1) J3 (by omega) (by omega) hM3
      rw [show ((k + 1 : Nat) : Int) = (k : Int) + 1 by omega] at nx
      exact S_X11_chance_45 nx
  refine S_X11_chance_28 (lp (n.toNat + 1) 0 _ (by omega) (by omega) ⟨hT.cg hG (fun y c => eb _ _ (by omega)) (fun y c => eb _ _ (by omega)) (fun y c => eb _ _ (by omega)) (fun y c => eb _ _ (by omega)) (fun y c => eb _ _ (by omega)) (fun y c => eb _ _ (by omega)) (fun x y c c2 => eb _ _ (by omega)) (fun y c => eb _ _ (by omega)), (funext fun y => eb _ _ (by omega)).trans h2, (funext fun y => eb _ _ (by omega)).trans h8, (eb _ _ (by omega)).trans h78, u2_at, (eb _ _ (by omega)).trans h72, f71⟩)
theorem c_mchance0 {X : CX} {I R : PF} {n : Int} (hs : Shp R) (hn : inR n) (h55 : I 306 55 = 0 ∨ I 306 55 = 1) (hno : 0 ≤ I 348 0 ∧ I 348 0 ≤ 999) (hc : ¬ (I 306 55 = 1 ∧ 1 ≤ n ∧ n ≤ 100 ∧ I 348 0 + n ≤ 999)) : CN X 7 mX11_chance [(2, 306), (0, n)] I R (fun v I' R' => v.2 = -1 ∧ I' = u2 I 308 3 (I 308 3 + 1) ∧ R' = R) := by
  refine callee_b (by decide +kernel) (Nat.le_of_ble_eq_true rfl) rfl ?_
  have no : PN X 7 mX11_chance 18 [(2, 306)] [] I R (fun v I' R' => v.2 = -1 ∧ I' = u2 I 308 3 (I 308 3 + 1) ∧ R' = R) := S_X11_chance_18 (d1 := 0) (by omega) (c_refuses hs (by decide)) (fun z I1 R1 q => S_X11_chance_23 q)
  refine S_X11_chance_0 (by omega) (fun _ => no) (fun g => ?_)
  refine S_X11_chance_7 (d1 := 2) (by omega) (c_isAheadM hs hn (by decide) (by decide) (by decide) (by decide) hno) (fun z I1 R1 q => ?_)
  obtain ⟨(hz : z = _), rfl, rfl⟩ := q
  rw [bi_f (fun c => hc ⟨by omega, c⟩)] at hz
  exact S_X11_chance_15 (by omega) (fun g2 => absurd hz g2) (fun _ => no)
theorem c_xchance0 {X : CX} {I R : PF} {p o n : Int} (hs : Shp R) (hp : Plc R p o) (h0 : inR (I p 0)) (hn : inR n) (hno : 0 ≤ I 111 0 ∧ I 111 0 ≤ 999) (hc : ¬ (0 < I p 0 ∧ 1 ≤ n ∧ n ≤ 100 ∧ I 111 0 + n ≤ 999)) : CN X 8 mX10_chance [(2, 64), (0, n)] I R (fun v I' R' => v.2 = -1 ∧ I' = u2 I 66 3 (I 66 3 + 1) ∧ R' = R) := by
  refine callee_b (by decide +kernel) (Nat.le_of_ble_eq_true rfl) rfl ?_
  refine S_X10_chance_0 (d1 := 1) (by omega) (c_canTurn hs hp h0 hn hno) (fun z I1 R1 q => ?_)
  obtain ⟨(hz : z = _), rfl, rfl⟩ := q
  rw [bi_f hc] at hz
  exact S_X10_chance_5 (by omega) (fun g2 => absurd hz g2) (fun _ => S_X10_chance_8 hs ⟨rfl, rfl, rfl⟩)
theorem b_chance {X : CX} {I R : PF} {n : Int} (h : Sim I R) (hn : inR n) : Both X 8 7 mX10_chance mX11_chance [(0, n)] I R := by
  obtain ⟨hs, -, -, hm, p, o, hp, hT⟩ := id h
  have hv := h.vw hp
  have b0 := hv.2.1.1
  have v6 := hv.2.2.2.2.2.1
  have rr := hv.2.2.2.2.2.2.1
  by_cases ok : I 306 55 = 1 ∧ 1 ≤ n ∧ n ≤ 100 ∧ I 348 0 + n ≤ 999
  · rcases hT with hT | ⟨D, hT⟩
    · exact absurd (hT.2.1.symm.trans ok.1) (by decide)
    have hpp := hp.2.2
    refine callee_b (by decide +kernel) (Nat.le_of_ble_eq_true rfl) rfl ?_
    refine S_X10_chance_0 (d1 := 1) (by omega) (c_canTurn hs hp (by unfold inR; omega) hn (by omega)) (fun z I0 R1 q => ?_)
    obtain ⟨(hz : z = _), rfl, rfl⟩ := q
    rw [bi_t ⟨by omega, ok.2.1, ok.2.2.1, by omega⟩] at hz
    refine S_X10_chance_5 (by omega) (fun _ => ?_) (fun g => by omega)
    -- the count of draws begins
    have fu : FR (fun x y => x = 303 ∧ y = 1) I0 (u2 I0 303 1 0) := FR_u2 ⟨rfl, rfl⟩
    have fu' : FR (fun x y => scC p o x y ∨ scM x y) I0 (u2 I0 303 1 0) := fu.mono (fun x y c => Or.inl (by unfold scC; omega))
    have hU : Sim (u2 I0 303 1 0) R1 := h.sc hp fu' FR.rf (by rw [u2_o (by decide)]; exact hm.2.2.2.2.2.1)
    have hTU : Tld D p (u2 I0 303 1 0) := hT.sc hpp fu'
    have u303 : (u2 I0 303 1 0) 303 0 = I0 303 0 := u2_j (by decide)
    have u31 : (u2 I0 303 1 0) 303 1 = 0 := u2_at
    have u306 : (u2 I0 303 1 0) 306 78 = I0 306 78 := u2_o (by decide)
    have ok2 : 1 ≤ n ∧ n ≤ 100 ∧ (u2 I0 303 1 0) 348 0 + n ≤ 999 := by rw [u2_o (by decide)]; exact ok.2
    have hsd := hm.2.2.1
    rw [← u303, ← u306] at hsd
    have hsr : sdR ((u2 I0 303 1 0) 303 0) := by rw [hsd.1]; exact hsd.2
    generalize hI1 : u2 I0 303 1 0 = I1 at *
    have hm1 := hU.2.2.2.1
    have k33 := hTU.k33
    obtain ⟨hG, hW, hQ, hL, hST, hK, hS, hP, hE⟩ := id hTU
    have h76 := hP.2.2.1
    have h762 := hP.2.2.2.1
    have h77 : 0 ≤ I1 306 77 ∧ I1 306 77 < 20 := ⟨hm1.2.2.2.2.2.2.2.1, hm1.2.2.2.2.2.2.2.2⟩
    have c4 := hm1.2.2.2.2.2.2.1
    refine S_X10_chance_20 (d1 := 7) hs (by omega) (by rw [hI1]; exact c_turn (dr := 1) (dz := 303) (sd := I1 303 0) (gm := 0) hU hp hTU ok2 (Or.inr ⟨rfl, rfl⟩) hsr (fun _ => ⟨rfl, u31⟩)) (fun z2 I2 R2 q => ?_)
    obtain ⟨-, ⟨Ia, ra, hc⟩, fR⟩ := q
    have e0 : ∀ x y, ¬ reC (I1 136 4) x y → Ia x y = I1 x y := ra.2.2.2.2
    have e1 : ∀ x y, ¬ cA p o x y → I2 x y = Ia x y := tuC_A hpp (Or.inr rfl) hc.2.2.2.2.2.2.2.2
    have n2 : ∀ x y, 304 ≤ x → I2 x y = I1 x y := fun x y c => (e1 x y (fun d => by unfold cA scC at d; omega)).trans (e0 x y (fun d => by unfold reC stC at d; omega))
    obtain ⟨c30, c31⟩ := hc.2.2.2.2.1 rfl
    have hs2 := hs.fr (scR_mR fR)
    refine S_X10_chance_37 hs2 ?_
    rw [c31]
    refine Callee.mono (c_mchance (I := I1) (n := n) (sd := I1 303 0) hs2 (hST.cg hG (fun y c => n2 _ _ (by decide)) (fun y c => n2 _ _ (by decide)) (fun y c => n2 _ _ (by decide)) (fun y c => n2 _ _ (by decide)) (fun y c => n2 _ _ (by decide)) (fun y c => n2 _ _ (by decide)) (fun x y c c2 => n2 _ _ (by omega)) (fun y c => n2 _ _ (by decide))) (funext fun y => n2 _ _ (by decide)) (funext fun y => n2 _ _ (by decide)) hG hW hK k33 ((n2 _ _ (by decide)).trans hsd.1.symm) hsr ((n2 _ _ (by decide)).trans hm1.2.2.2.2.1) (by rw [n2 _ _ (by decide)]; exact h77) (by rw [n2 _ _ (by decide)]; exact ⟨h76, h762⟩) ok2) (fun v' J R3 r => ?_)
    obtain ⟨r1, ⟨Jb, kb, hM⟩, rfl⟩ := r
    refine ⟨r1, ?_⟩
    obtain ⟨m1, m2, m3, m4, m5, m6, m7⟩ := hM
    obtain ⟨t1, t2, t3, t4, t5⟩ := sq_ok (kp := true) (dr := 1) (sd := I1 303 0) (gm := 0) hG hK k33 hsr n.toNat (by omega)
    exact hU.turn hp hTU ra (Or.inr rfl) hc (by omega) kb m7 m3 t5 t1 ⟨c30.trans m4.symm, by rw [m4]; exact t4⟩ fR
  · refine Both.rfs h (u := -1) (k := 3) (c_xchance0 hs hp (by unfold inR; omega) hn (by omega) (fun c => ok ⟨by omega, c.2.1, c.2.2.1, by omega⟩)) (fun J e => c_mchance0 hs hn (by rw [e _ _ (by decide)]; omega) (by rw [e _ _ (by decide)]; omega) (by rw [e _ _ (by decide), e _ _ (by decide)]; exact ok))
