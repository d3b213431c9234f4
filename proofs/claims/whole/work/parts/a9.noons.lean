/-! ===== noons, chance: the model, both ===== -/
def MdN (D I : PF) (S : PF × Int × Int) (J0 J : PF) : Prop := ST D J ∧ J 342 = I 342 ∧ J 348 = S.1 348 ∧ J 306 78 = S.2.1 ∧ J 306 71 = S.2.2 ∧ J 306 72 = 0 ∧ FR mNo J0 J
theorem c_mstepN {X : CX} {I J J0 R D : PF} {dr sd gm : Int} {k : Nat} (hs : Shp R) (hG : GD D) (hW : WD D) (hK : KG D I) (h33 : 0 ≤ I 348 33 ∧ I 348 33 ≤ 40) (hsd : sdR sd) (hdr : dr = 0 ∨ dr = 1) (hk : I 348 0 + k < 999) (hM : MdN D I (sqF true D dr k (I, sd, gm)) J0 J) : CN X 6 mX11_noonGoes [(2, 306), (0, dr)] J R (fun _ I' R' => MdN D I (sqF true D dr (k + 1) (I, sd, gm)) J0 I' ∧ R' = R) := by
  obtain ⟨t1, t2, t3, t4, t5⟩ := sq_ok (kp := true) (dr := dr) (gm := gm) hG hK h33 hsd k (by omega)
  obtain ⟨m1, m2, m3, m4, m5, m6, m7⟩ := hM
  refine Callee.mono (c_noonGoes (kp := true) (K := (sqF true D dr k (I, sd, gm)).1) hs m1 (m2.trans t5.symm) m3 m6 hdr hG hW t1 t3 m4 t4 m5) (fun v I' R' q => ?_)
  obtain ⟨q1, q2, q3, q4, rfl⟩ := q
  exact ⟨⟨m1.go q4, (funext fun y => q4 _ _ (fun c => by unfold mNo mGo mFl at c; omega)).trans m2, q1, q2, q3, (q4 _ _ (fun c => by unfold mNo mGo mFl at c; omega)).trans m6, m7.tr q4⟩, rfl⟩
theorem c_refuses {X : CX} {I R : PF} {k : Int} (hs : Shp R) (hk : 0 ≤ k ∧ k < 6) : CN X 0 mX11_refuses [(2, 306), (0, k)] I R (fun v I' R' => v.2 = -1 ∧ I' = u2 I 308 k (I 308 k + 1) ∧ R' = R) := callee_b (by decide +kernel) (Nat.le_of_ble_eq_true rfl) rfl (S_X11_refuses_0 hs hk ⟨rfl, rfl, rfl⟩)
theorem wcF_1 (D K : PF) (dr sd gm : Int) (k : Nat) : wcF D K dr sd gm (k + 1) = cif (¬ (sqF true D dr (k + 1) (K, sd, gm)).1 348 1 = -1) (wcF D K dr sd gm k + 1) (wcF D K dr sd gm k) := by
  unfold wcF; rw [cnt]; simp only [Int.toNat_natCast]
theorem c_mnoons {X : CX} {I J R D : PF} {n sd gm : Int} (hs : Shp R) (hT : ST D J) (h2 : J 342 = I 342) (h8 : J 348 = I 348) (hG : GD D) (hW : WD D) (hK : KG D I) (h33 : 0 ≤ I 348 33 ∧ I 348 33 ≤ 40) (h78 : J 306 78 = sd) (hsd : sdR sd) (h71 : J 306 71 = gm) (h72 : J 306 72 = 0) (h77 : 0 ≤ J 306 77 ∧ J 306 77 < 20) (h76 : 0 ≤ J 306 76 ∧ J 306 76 ≤ 20) (hn : 1 ≤ n ∧ n ≤ 100 ∧ I 348 0 + n ≤ 999) :
    CN X 7 mX11_noons [(2, 306), (0, n)] J R (fun v I' R' => v.2 = wcF D I 0 sd gm n.toNat ∧ (∃ Jb, KepP J Jb ∧ MdN D I (sqF true D 0 n.toNat (I, sd, gm)) Jb I') ∧ R' = R) := by
  refine callee_b (by decide +kernel) (Nat.le_of_ble_eq_true rfl) rfl ?_
  have k0 := hK.1
  refine S_X11_noons_0 (by rw [hT.1]; decide) (fun g => absurd (hT.1.symm.trans g) (by decide)) (fun _ => ?_)
  refine S_X11_noons_7 (d1 := 2) (by omega) (c_isAheadM hs (by unfold inR; omega) (by decide) (by decide) (by decide) (by decide) (by rw [h8]; omega)) (fun z I1 R1 q => ?_)
  obtain ⟨(hz : z = _), rfl, rfl⟩ := q
  rw [bi_t (by rw [h8]; exact hn)] at hz
  refine S_X11_noons_15 (by omega) (fun _ => ?_) (fun g => by omega)
  refine S_X11_noons_24 (d1 := 0) (by omega) (c_keeps hs h77 h76) (fun z2 Jb R2 r => ?_)
  obtain ⟨k1, k2, k3, k4, rfl⟩ := r
  have e0 : ∀ x y, ¬ keM ((I1 306 77 + 1) % 20) x y → Jb x y = I1 x y := k4
  have en : ∀ x y, ¬ ((x = 306 ∧ (y = 76 ∨ y = 77)) ∨ x = 354) → Jb x y = I1 x y := fun x y c => e0 x y (fun d => by unfold keM at d; omega)
  have lp : ∀ (f k : Nat) (J : PF), n.toNat - k < f → k ≤ n.toNat → MdN D I (sqF true D 0 k (I, sd, gm)) Jb J →
      PN X 7 mX11_noons 32 [(2, 306), (0, n), (0, wcF D I 0 sd gm k), (0, (k : Int))] [] J R2 (fun v I' R' => v.2 = wcF D I 0 sd gm n.toNat ∧ (∃ Jb, KepP I1 Jb ∧ MdN D I (sqF true D 0 n.toNat (I, sd, gm)) Jb I') ∧ R' = R2) := by
    intro f
    induction f with
    | zero => intro k J h; exact absurd h (Nat.not_lt_zero _)
    | succ f ih =>
      intro k J hf hk hM
      refine S_X11_noons_32 (by omega) (by omega) (fun g => ?_) (fun g => ?_)
      · obtain rfl : k = n.toNat := by omega
        exact S_X11_noons_61 ⟨rfl, ⟨Jb, ⟨k1, k2, k3, k4⟩, hM⟩, rfl⟩
      obtain ⟨u1, u2', u3, u4, u5⟩ := sq_ok (kp := true) (dr := 0) (gm := gm) hG hK h33 hsd (k + 1) (by omega)
      refine S_X11_noons_37 (d1 := 6) (by omega) (c_mstepN hs hG hW hK h33 hsd (Or.inl rfl) (by omega) hM) (fun z3 J3 R3 r => ?_)
      obtain ⟨hM3, rfl⟩ := r
      have nx := ih (k + 1) J3 (by omega) (by omega) hM3
      rw [show ((k + 1 : Nat) : Int) = (k : Int) + 1 by omega] at nx
      have e1 : J3 348 1 = (sqF true D 0 (k + 1) (I, sd, gm)).1 348 1 := by rw [hM3.2.2.1]
      have ub := u1.2.1
      have hD := hG.2.1
      rw [wcF_1] at nx
      refine S_X11_noons_42 hs (by omega) (fun g3 => S_X11_noons_55 ?_) (fun g3 => S_X11_noons_52 (S_X11_noons_55 ?_))
      · rw [cif_f (fun c => c (e1.symm.trans g3))] at nx; exact nx
      · rw [cif_t (fun c => g3 (e1.trans c))] at nx; exact nx
  refine S_X11_noons_28 (lp (n.toNat + 1) 0 Jb (by omega) (by omega) ⟨hT.cg hG (fun y c => en _ _ (by omega)) (fun y c => en _ _ (by omega)) (fun y c => en _ _ (by omega)) (fun y c => en _ _ (by omega)) (fun y c => en _ _ (by omega)) (fun y c => en _ _ (by omega)) (fun x y c c2 => en _ _ (by omega)) (fun y c => en _ _ (by omega)), (funext fun y => en _ _ (by omega)).trans h2, (funext fun y => en _ _ (by omega)).trans h8, (en _ _ (by omega)).trans h78, (en _ _ (by omega)).trans h71, (en _ _ (by omega)).trans h72, FR.rf⟩)
theorem c_mnoons0 {X : CX} {I R : PF} {n : Int} (hs : Shp R) (hn : inR n) (h55 : I 306 55 = 0 ∨ I 306 55 = 1) (hno : 0 ≤ I 348 0 ∧ I 348 0 ≤ 999) (hc : ¬ (I 306 55 = 1 ∧ 1 ≤ n ∧ n ≤ 100 ∧ I 348 0 + n ≤ 999)) : CN X 7 mX11_noons [(2, 306), (0, n)] I R (fun v I' R' => v.2 = -1 ∧ I' = u2 I 308 3 (I 308 3 + 1) ∧ R' = R) := by
  refine callee_b (by decide +kernel) (Nat.le_of_ble_eq_true rfl) rfl ?_
  have no : PN X 7 mX11_noons 18 [(2, 306)] [] I R (fun v I' R' => v.2 = -1 ∧ I' = u2 I 308 3 (I 308 3 + 1) ∧ R' = R) := S_X11_noons_18 (d1 := 0) (by omega) (c_refuses hs (by decide)) (fun z I1 R1 q => S_X11_noons_23 q)
  refine S_X11_noons_0 (by omega) (fun _ => no) (fun g => ?_)
  refine S_X11_noons_7 (d1 := 2) (by omega) (c_isAheadM hs hn (by decide) (by decide) (by decide) (by decide) hno) (fun z I1 R1 q => ?_)
  obtain ⟨(hz : z = _), rfl, rfl⟩ := q
  rw [bi_f (fun c => hc ⟨by omega, c⟩)] at hz
  exact S_X11_noons_15 (by omega) (fun g2 => absurd hz g2) (fun _ => no)
theorem c_xnoons0 {X : CX} {I R : PF} {p o n : Int} (hs : Shp R) (hp : Plc R p o) (h0 : inR (I p 0)) (hn : inR n) (hno : 0 ≤ I 111 0 ∧ I 111 0 ≤ 999) (hc : ¬ (0 < I p 0 ∧ 1 ≤ n ∧ n ≤ 100 ∧ I 111 0 + n ≤ 999)) : CN X 8 mX10_noons [(2, 64), (0, n)] I R (fun v I' R' => v.2 = -1 ∧ I' = u2 I 66 3 (I 66 3 + 1) ∧ R' = R) := by
  refine callee_b (by decide +kernel) (Nat.le_of_ble_eq_true rfl) rfl ?_
  refine S_X10_noons_0 (d1 := 1) (by omega) (c_canTurn hs hp h0 hn hno) (fun z I1 R1 q => ?_)
  obtain ⟨(hz : z = _), rfl, rfl⟩ := q
  rw [bi_f hc] at hz
  exact S_X10_noons_5 (by omega) (fun g2 => absurd hz g2) (fun _ => S_X10_noons_8 hs ⟨rfl, rfl, rfl⟩)
theorem tuC_A {p o dz : Int} (hpp : p = 72 ∧ o = 91 ∨ p = 91 ∧ o = 72) (hdz : dz = 0 ∨ dz = 303) {I J : PF} (f : FR (tuC p dz) I J) : FR (cA p o) I J := f.mono (fun x y c => by
  have q : ∀ {x y}, mQy p x y → cA p o x y := fun c => Or.inl (mQy_scC c)
  rcases c with (c | c | c) | c | c
  · rcases c with c | c | c | c
    · exact q (Or.inl (Or.inl c))
    · exact q (Or.inl (Or.inr (Or.inl c)))
    · rcases c with c | c
      · rcases c with ⟨c1, c2, c3⟩
        rcases c3 with c3 | c3
        · exact Or.inr (Or.inr (Or.inr (Or.inr ⟨c1, c3⟩)))
        · exact Or.inl (by unfold scC; rcases hpp with ⟨e1, e2⟩ | ⟨e1, e2⟩ <;> omega)
      · exact q (Or.inl (Or.inr (Or.inr (Or.inl (Or.inr c)))))
    · exact q (Or.inl (Or.inr (Or.inr (Or.inr c))))
  · exact q (Or.inr c)
  · exact Or.inr (Or.inl (by unfold stC at c; omega))
  · exact Or.inr (Or.inr (Or.inl c))
  · exact Or.inr (Or.inr (Or.inr (Or.inl c))))
theorem mNo_B {x y : Int} (c : mNo x y) : cB x y := by
  rcases c with c | c
  · by_cases e : x = 306 ∧ y = 78
    · exact Or.inr (Or.inr e)
    · exact Or.inl (mGo_scM c e)
  · exact Or.inr (Or.inl c)
/-- noons gone in both -/
theorem Sim.turn {I Ia I1 Ib J R R' D : PF} {p o n dz : Int} {S : PF × Int × Int} (h : Sim I R) (hp : Plc R p o) (hT : Tld D p I) (ra : RemP D I Ia) (hdz : dz = 0 ∨ dz = 303) (hc : TuC D S p dz I Ia n I1) (hn : 0 ≤ n) (kb : KepP I1 Ib) (fm : FR mNo Ib J) (e8 : J 348 = S.1 348) (hS2 : S.1 342 = I 342) (hKS : KG D S.1) (h303 : I1 303 0 = J 306 78 ∧ sdR (J 306 78)) (fR : FR scR R R') : Sim J R' := by
  obtain ⟨b1, b2, b3, b4, b5, b6, b7, b8, b9⟩ := hc
  have hpp := hp.2.2
  have hD := hT.1.2.1
  have fa : FR (cA p o) Ia I1 := tuC_A hpp hdz b9
  have fb : FR cB Ib J := fm.mono (fun x y c => mNo_B c)
  have e2 : ∀ x y, ¬ ((x = 306 ∧ (y = 76 ∨ y = 77)) ∨ x = 354) → Ib x y = I1 x y := fun x y c => kb.2.2.2 x y (fun d => by unfold keM at d; omega)
  have e3 : ∀ x y, ¬ cB x y → J x y = Ib x y := fb
  have nn : ∀ x y, x ≤ 303 → J x y = I1 x y := fun x y c => (e3 x y (fun d => by unfold cB scM at d; omega)).trans (e2 x y (by omega))
  have e1 : ∀ x y, ¬ cA p o x y → I1 x y = Ia x y := fa
  have e0 : ∀ x y, ¬ reC (I 136 4) x y → Ia x y = I x y := ra.2.2.2.2
  have s7 := h.2.2.2.1.2.2.2.2.2.2.1
  have j342 : ∀ y, 24 ≤ y → J 342 y = S.1 342 y := fun y hy => by
    rw [hS2, e3 _ _ (fun d => by unfold cB scM at d; omega), e2 _ _ (by omega), e1 _ _ (fun d => by unfold cA scC at d; omega), e0 _ _ (fun d => by unfold reC stC at d; omega)]
  have j348 : ∀ y, J 348 y = S.1 348 y := fun y => by rw [e8]
  have jw : ∀ w j, 0 ≤ w → w < 3 → J (138 + w) j = I1 (138 + w) j := fun w j w0 w1 => nn _ _ (by omega)
  have j1 : J 136 1 = I 136 1 + n := (nn _ _ (by decide)).trans b7
  refine h.two hp hT ra fa kb fb fR b4 ⟨by rw [nn _ _ (by decide)]; exact h303.1, h303.2⟩ ?_ (hKS.cg ⟨by omega, by omega⟩ (fun y _ _ => j348 y) j342) ?_ (by omega) (fun w j w0 w1 hj => (jw w j w0 w1).trans (b8 w j w0 w1 hj))
  · exact (b1.cg ⟨by omega, by omega⟩ (fun y _ _ => j348 y) j342).fr ⟨by omega, by omega⟩ (fun x y c => nn x y (by unfold stC at c; omega))
  · rw [j1]
    exact b6.cg (fun y _ _ => j348 y) (fun w j w0 w1 _ => jw w j w0 w1)
theorem wcF_0 {D K : PF} {sd gm : Int} (n : Nat) : wcF D K 0 sd gm n = wcF D K 0 0 0 n := by
  unfold wcF
  exact cnt_congr n (fun i _ _ => by rw [sq_0 (sd := sd) (gm := gm)])
theorem b_noons {X : CX} {I R : PF} {n : Int} (h : Sim I R) (hn : inR n) : Both X 8 7 mX10_noons mX11_noons [(0, n)] I R := by
  obtain ⟨hs, -, -, hm, p, o, hp, hT⟩ := id h
  have hv := h.vw hp
  have b0 := hv.2.1.1
  have v6 := hv.2.2.2.2.2.1
  have rr := hv.2.2.2.2.2.2.1
  by_cases ok : I 306 55 = 1 ∧ 1 ≤ n ∧ n ≤ 100 ∧ I 348 0 + n ≤ 999
  · rcases hT with hT | ⟨D, hT⟩
    · exact absurd (hT.2.1.symm.trans ok.1) (by decide)
    have k33 := hT.k33
    have hpp := hp.2.2
    obtain ⟨hG, hW, hQ, hL, hST, hK, hS, hP, hE⟩ := id hT
    have h76 := hP.2.2.1
    have h762 := hP.2.2.2.1
    have h77 : 0 ≤ I 306 77 ∧ I 306 77 < 20 := ⟨hm.2.2.2.2.2.2.2.1, hm.2.2.2.2.2.2.2.2⟩
    have c4 := hm.2.2.2.2.2.2.1
    refine callee_b (by decide +kernel) (Nat.le_of_ble_eq_true rfl) rfl ?_
    refine S_X10_noons_0 (d1 := 1) (by omega) (c_canTurn hs hp (by unfold inR; omega) hn (by omega)) (fun z I1 R1 q => ?_)
    obtain ⟨(hz : z = _), rfl, rfl⟩ := q
    rw [bi_t ⟨by omega, ok.2.1, ok.2.2.1, by omega⟩] at hz
    refine S_X10_noons_5 (by omega) (fun _ => ?_) (fun g => by omega)
    refine S_X10_noons_20 (d1 := 7) (by omega) (c_turn (dr := 0) (dz := 0) (sd := 0) (gm := 0) h hp hT ok.2 (Or.inl ⟨rfl, rfl⟩) (by unfold sdR; omega) (fun c => absurd c (by decide))) (fun z2 I2 R2 q => ?_)
    obtain ⟨(hz2 : z2 = _), ⟨Ia, ra, hc⟩, fR⟩ := q
    rw [hz2]
    refine S_X10_noons_26 ?_
    have e0 : ∀ x y, ¬ reC (I1 136 4) x y → Ia x y = I1 x y := ra.2.2.2.2
    have e1 : ∀ x y, ¬ cA p o x y → I2 x y = Ia x y := tuC_A hpp (Or.inl rfl) hc.2.2.2.2.2.2.2.2
    have n2 : ∀ x y, 304 ≤ x → I2 x y = I1 x y := fun x y c => (e1 x y (fun d => by unfold cA scC at d; omega)).trans (e0 x y (fun d => by unfold reC stC at d; omega))
    have n303 : I2 303 0 = I1 303 0 := (hc.2.2.2.2.2.2.2.2 _ _ (fun d => by unfold tuC mPy mFy mSt1 mWd mCa mPr stC at d; omega)).trans (e0 _ _ (fun d => by unfold reC stC at d; omega))
    have hsd := hm.2.2.1
    refine Callee.mono (c_mnoons (I := I1) (n := n) (sd := I1 306 78) (gm := I2 306 71) (h.1.fr (scR_mR fR)) (hST.cg hG (fun y c => n2 _ _ (by decide)) (fun y c => n2 _ _ (by decide)) (fun y c => n2 _ _ (by decide)) (fun y c => n2 _ _ (by decide)) (fun y c => n2 _ _ (by decide)) (fun y c => n2 _ _ (by decide)) (fun x y c c2 => n2 _ _ (by omega)) (fun y c => n2 _ _ (by decide))) (funext fun y => n2 _ _ (by decide)) (funext fun y => n2 _ _ (by decide)) hG hW hK k33 (n2 _ _ (by decide)) hsd.2 rfl ((n2 _ _ (by decide)).trans hm.2.2.2.2.1) (by rw [n2 _ _ (by decide)]; exact h77) (by rw [n2 _ _ (by decide)]; exact ⟨h76, h762⟩) ok.2) (fun v' J R3 r => ?_)
    obtain ⟨r1, ⟨Jb, kb, hM⟩, rfl⟩ := r
    refine ⟨r1.trans (wcF_0 _), ?_⟩
    obtain ⟨m1, m2, m3, m4, m5, m6, m7⟩ := hM
    rw [sq_0] at m3 m4
    obtain ⟨t1, t2, t3, t4, t5⟩ := sq_ok (kp := true) (dr := 0) (sd := 0) (gm := 0) hG hK k33 (by unfold sdR; omega) n.toNat (by omega)
    refine h.turn hp hT ra (Or.inl rfl) hc (by omega) kb m7 m3 t5 t1 ⟨?_, by rw [m4]; exact hsd.2⟩ fR
    rw [m4, n303]; exact hsd.1
  · refine Both.rfs h (u := -1) (k := 3) (c_xnoons0 hs hp (by unfold inR; omega) hn (by omega) (fun c => ok ⟨by omega, c.2.1, c.2.2.1, by omega⟩)) (fun J e => c_mnoons0 hs hn (by rw [e _ _ (by decide)]; omega) (by rw [e _ _ (by decide)]; omega) (by rw [e _ _ (by decide), e _ _ (by decide)]; exact ok))
