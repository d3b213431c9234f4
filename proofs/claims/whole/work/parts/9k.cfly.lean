/-! ===== the class's flight ===== -/
theorem rns_PDi {D K : PF} {h : Int × Int} {P : Int → Int × Int} (hP : PDi D P) : ∀ k : Nat, (k : Int) ≤ D 339 1 → PDi D (rns D K h k P)
  | 0, _ => hP
  | k + 1, hk => itp_PDi (rns_PDi hP k (by omega)) ⟨by omega, by omega⟩ _
def mFy (o dz x y : Int) : Prop := (x = 127 ∧ 3 ≤ y ∧ y ≤ 7) ∨ mSt1 x y ∨ mWd o dz x y ∨ mCa o x y
/-- the class's cells tell the end of a flight -/
def EndC (r : Int × Int × (Int × Int) × Int × Int) (dz : Int) (I : PF) : Prop := I 127 7 = r.1 ∧ I 127 6 = r.2.1 ∧ I 127 3 = r.2.2.1.1 ∧ I 127 4 = r.2.2.1.2 ∧ (dz = 303 → I 303 0 = r.2.2.2.1 ∧ I 303 1 = r.2.2.2.2)
theorem mSt1_Cf {o : Int} {I J : PF} (h : FR mSt1 I J) : FR (mCf o) I J := h.mono (fun x y c => by unfold mSt1 at c; unfold mCf; omega)
theorem crns_loop {X : CX} {d : Nat} {R : PF} {Q : PV → PF → PF → Prop} {I0 D K : PF} {noon o s x2 : Int} {h : Int × Int} {P : Int → Int × Int} (hs : Shp R) (hd : 4 ≤ d) (ho : R 127 0 = o) (hk : kd MF o = 6) (hr1 : R 127 1 = s) (hss : s = 111 ∨ s = 119) (hG : GD D) (hK : KB D K) (hI : PIn D P) (hPD : PDi D P) (hq : inQ D h) (h1 : I0 127 3 = h.1) (h2 : I0 127 4 = h.2) (hF0 : ClF D K noon o s I0)
    (hQ : ∀ I', ClA D (rns D K h (D 339 1).toNat P) I' → FR mSt1 I0 I' → PN X d mX1_fly 147 [(2, 127), (9, 0), (0, x2)] [] I' R Q) : ∀ (m k : Nat) (I : PF), (D 339 1).toNat - k < m → (k : Int) ≤ D 339 1 → ClA D (rns D K h k P) I → FR mSt1 I0 I →
    PN X d mX1_fly 123 [(2, 127), (9, 0), (0, x2), (9, 0), (0, (k : Int))] [] I R Q := by
  intro m
  have hD := hG.2.1
  have ks : kd MF s = 8 := by rcases hss with rfl | rfl <;> decide +kernel
  induction m with
  | zero => intro k I h; exact absurd h (Nat.not_lt_zero _)
  | succ m ih =>
    intro k I hm hk' hA hf
    have hF := hF0.fr hk hss hG (mSt1_Cf hf) (by rw [hf _ _ (fun c => by unfold mSt1 at c; omega)]; exact hF0.2.2.2.1.2)
    have e3 : I s 3 = D 339 1 := hF.2.2.1.1.2.2.2
    refine S_X1_fly_123 hr1 ks (by omega) (by omega) (fun g => ?_) (fun g => ?_)
    · refine hQ I ?_ hf
      rw [show (D 339 1).toNat = k by omega]; exact hA
    have hkp : 0 ≤ (k : Int) ∧ (k : Int) < D 339 1 := by omega
    refine S_X1_fly_135 (d1 := 3) (by omega) (c_run (c := K 342 (25 + 4 * (k : Int))) hs ho hk hr1 hss hF.1 hG hA (rns_in hI k) hkp hq (rns_PDi hPD k hk') (hK.2 k hkp.1 hkp.2).2.1 (hF.2.2.1.2 k hkp.1 hkp.2).2.2.2.1 (by rw [hf _ _ (fun c => by unfold mSt1 at c; omega)]; exact h1) (by rw [hf _ _ (fun c => by unfold mSt1 at c; omega)]; exact h2)) (fun z I1 R1 q => ?_)
    obtain ⟨q1, q2, rfl⟩ := q
    refine S_X1_fly_141 ?_
    have := ih (k + 1) I1 (by omega) (by omega) q1 (hf.tr q2)
    rw [show ((k + 1 : Nat) : Int) = (k : Int) + 1 by omega] at this
    exact this
theorem fly_loop {X : CX} {d : Nat} {R : PF} {Q : PV → PF → PF → Prop} {I0 D K : PF} {noon o s dz dr : Int} (hs : Shp R) (hd : 5 ≤ d) (ho : R 127 0 = o) (hk : kd MF o = 6) (hr1 : R 127 1 = s) (hr2 : R 127 2 = dz) (hdz : dr = 0 ∧ dz = 0 ∨ dr = 1 ∧ dz = 303) (hss : s = 111 ∨ s = 119) (hG : GD D) (hW : WD D) (hK : KG D K) (hn : bd noon) :
    ∀ (m : Nat) (h : Int × Int) (P : Int → Int × Int) (sd gm b k : Int) (I : PF), 0 ≤ k → k + m ≤ 9 → ClF D K noon o s I → ClA D P I → PIn D P → PDi D P → inQ D h → I 127 3 = h.1 → I 127 4 = h.2 → I 127 5 = m → I 127 6 = b → I 127 7 = -1 → (dz = 303 → I 303 0 = sd ∧ sdR sd ∧ I 303 1 = gm) → FR (mFy o dz) I0 I →
    (∀ I', ClF D K noon o s I' → EndC (flyR D K noon dr m h P sd gm b) dz I' → FR (mFy o dz) I0 I' → Q (9, 0) I' R) → PN X d mX1_fly 43 [(2, 127), (9, 0), (0, k)] [] I R Q := by
  intro m
  have hKB := hK.kb hG
  have hD := hG.2.1
  have hko := sq_o hk
  induction m with
  | zero =>
    intro h P sd gm b k I k0 km hF hA hI hPD hq h1 h2 h3 h4 h5 h6 hf hQ
    have fin : PN X d mX1_fly 161 [] [] I R Q := S_X1_fly_161 (hQ I hF ⟨h5, h4, h1, h2, fun c => ⟨(h6 c).1, (h6 c).2.2⟩⟩ hf)
    exact S_X1_fly_43 (by omega) (fun _ => fin) (fun _ => S_X1_fly_49 (by omega) (fun _ => fin) (fun g => by omega))
  | succ m ih =>
    intro h P sd gm b k I k0 km hF hA hI hPD hq h1 h2 h3 h4 h5 h6 hf hQ
    refine S_X1_fly_43 (by omega) (fun g => by omega) (fun _ => ?_)
    refine S_X1_fly_49 (by omega) (fun g => by omega) (fun _ => ?_)
    refine S_X1_fly_56 (by omega) (fun g => absurd h5 g) (fun _ => ?_)
    have g1 : FR (fun x y => x = 127 ∧ y = 6) I (u2 I 127 6 (I 127 6 + 1)) := FR_u2 ⟨rfl, rfl⟩
    have w6 : (u2 I 127 6 (I 127 6 + 1)) 127 6 = b + 1 := by rw [u2_at, h4]
    have f1 : FR (mFy o dz) I (u2 I 127 6 (I 127 6 + 1)) := g1.mono (fun x y c => Or.inl (by omega))
    have hF1 := hF.fr hk hss hG (g1.mono (fun x y c => Or.inl (by omega))) (by rw [g1 _ _ (fun c => by omega)]; exact hF.2.2.2.1.2)
    have w : ∀ x y, ¬ (x = 127 ∧ y = 6) → (u2 I 127 6 (I 127 6 + 1)) x y = I x y := g1
    have v3 : (u2 I 127 6 (I 127 6 + 1)) 127 3 = h.1 := by rw [w _ _ (by decide)]; exact h1
    have v4 : (u2 I 127 6 (I 127 6 + 1)) 127 4 = h.2 := by rw [w _ _ (by decide)]; exact h2
    have v5 : (u2 I 127 6 (I 127 6 + 1)) 127 5 = (m : Int) + 1 := by rw [w _ _ (by decide), h3]; omega
    have v7 : (u2 I 127 6 (I 127 6 + 1)) 127 7 = -1 := by rw [w _ _ (by decide)]; exact h5
    have hA1 : ClA D P (u2 I 127 6 (I 127 6 + 1)) := hA.fr (fun x hx y => w x y (by omega))
    have h61 : dz = 303 → (u2 I 127 6 (I 127 6 + 1)) 303 0 = sd ∧ sdR sd ∧ (u2 I 127 6 (I 127 6 + 1)) 303 1 = gm := fun c => by rw [w _ _ (by decide), w _ _ (by decide)]; exact h6 c
    generalize hJ : u2 I 127 6 (I 127 6 + 1) = J at *
    refine S_X1_fly_64 (d1 := 4) ho (by omega) (by rw [hJ]; exact c_wind (K := K) (s := s) hs ho hk hr2 hdz hss hF1 hG hW hn v5 (by omega) h61) (fun wd I1 R1 q => ?_)
    obtain ⟨(hwd : wd = _), q1, hF2, f2, rfl⟩ := q
    rw [hJ, v3, v4]
    have e2 : ∀ x y, ¬ mWd o dz x y → I1 x y = J x y := f2
    have wr : 0 ≤ wd ∧ wd < 9 := by
      have c1 := wndV_r D noon ((m : Int) + 1)
      have c2 := drw_r (nx sd) (show (0 : Int) < 9 by decide)
      rw [hwd]; unfold fWd
      by_cases c : hitD D dr sd
      · rw [cif_t c]; exact c2
      · rw [cif_f c]; exact c1
    refine S_X1_fly_90 (d1 := 2) (by omega) (c_beyond hs hk hF2.1 hG hq wr) hk (fun z I2 R2 q => ?_)
    obtain ⟨(hz : z = _), rfl, rfl⟩ := q
    have hq' := bes_in (w := wd) hG hq
    have hq'' := hq'
    obtain ⟨b1, b2, b3, b4⟩ := hq''
    have hGd := hG.1
    have t1 : z.tmod 9 = (bes D wd h).1 := by rw [hz, Int.tmod_eq_emod_of_nonneg (by omega)]; omega
    have t2 : z.tdiv 9 = (bes D wd h).2 := by rw [hz, Int.tdiv_eq_ediv_of_nonneg (by omega)]; omega
    refine S_X1_fly_93 (by omega) ?_
    rw [t1, t2]
    have g3 : FR (fun x y => x = 127 ∧ (y = 3 ∨ y = 4 ∨ y = 5)) I2 (u2 (u2 (u2 I2 127 3 (bes D wd h).1) 127 4 (bes D wd h).2) 127 5 ((u2 (u2 I2 127 3 (bes D wd h).1) 127 4 (bes D wd h).2) 127 5 - 1)) := ((FR_u2 ⟨rfl, Or.inl rfl⟩).tr (FR_u2 ⟨rfl, Or.inr (Or.inl rfl)⟩)).tr (FR_u2 ⟨rfl, Or.inr (Or.inr rfl)⟩)
    have x3 : (u2 (u2 (u2 I2 127 3 (bes D wd h).1) 127 4 (bes D wd h).2) 127 5 ((u2 (u2 I2 127 3 (bes D wd h).1) 127 4 (bes D wd h).2) 127 5 - 1)) 127 3 = (bes D wd h).1 := by rw [u2_j (by decide), u2_j (by decide), u2_at]
    have x4 : (u2 (u2 (u2 I2 127 3 (bes D wd h).1) 127 4 (bes D wd h).2) 127 5 ((u2 (u2 I2 127 3 (bes D wd h).1) 127 4 (bes D wd h).2) 127 5 - 1)) 127 4 = (bes D wd h).2 := by rw [u2_j (by decide), u2_at]
    have x5 : (u2 (u2 (u2 I2 127 3 (bes D wd h).1) 127 4 (bes D wd h).2) 127 5 ((u2 (u2 I2 127 3 (bes D wd h).1) 127 4 (bes D wd h).2) 127 5 - 1)) 127 5 = m := by
      rw [u2_at, u2_j (by decide), u2_j (by decide), e2 _ _ (fun c => by unfold mWd at c; omega), v5]; omega
    generalize u2 (u2 (u2 I2 127 3 (bes D wd h).1) 127 4 (bes D wd h).2) 127 5 ((u2 (u2 I2 127 3 (bes D wd h).1) 127 4 (bes D wd h).2) 127 5 - 1) = L at g3 x3 x4 x5
    have e3 : ∀ x y, ¬ (x = 127 ∧ (y = 3 ∨ y = 4 ∨ y = 5)) → L x y = I2 x y := g3
    have hF3 := hF2.fr hk hss hG (g3.mono (fun x y c => Or.inl (by omega))) (by rw [e3 _ _ (by omega)]; exact hF2.2.2.2.1.2)
    have hA3 : ClA D P L := hA1.fr (fun x hx y => by rw [e3 x y (by omega), e2 x y (fun c => by unfold mWd at c; omega)])
    refine crns_loop (I0 := L) (P := P) (h := bes D wd h) hs (by omega) ho hk hr1 hss hG hKB hI hPD hq' x3 x4 hF3 (fun I4 hA4 f4 => ?_) _ 0 L (Nat.lt_succ_self _) (by omega) hA3 FR.rf
    have e4 : ∀ x y, ¬ mSt1 x y → I4 x y = L x y := f4
    have hF4 := hF3.fr hk hss hG (mSt1_Cf f4) (by rw [e4 _ _ (fun c => by unfold mSt1 at c; omega)]; exact hF3.2.2.2.1.2)
    have n127 : ∀ y, I4 127 y = L 127 y := fun y => e4 _ _ (fun c => by unfold mSt1 at c; omega)
    have hI4 := rns_in (K := K) (h := bes D wd h) hI (D 339 1).toNat
    refine S_X1_fly_147 (d1 := 3) (by omega) (c_catcher (K := K) (noon := noon) (s := s) hs ho hk hr1 hss hF4 hG hW hK hn (show 0 ≤ (m : Int) ∧ (m : Int) < 10 by omega) hI4 hq' ((n127 3).trans x3) ((n127 4).trans x4) ((n127 5).trans x5) hA4.1) (fun who I5 R5 q => ?_)
    obtain ⟨(hwho : who = _), hF5, f5, rfl⟩ := q
    have e5 : ∀ x y, ¬ mCa o x y → I5 x y = I4 x y := f5
    have g6 : FR (fun x y => x = 127 ∧ y = 7) I5 (u2 I5 127 7 who) := FR_u2 ⟨rfl, rfl⟩
    have y7 : (u2 I5 127 7 who) 127 7 = who := u2_at
    refine S_X1_fly_152 ?_
    generalize u2 I5 127 7 who = M at g6 y7
    have e6 : ∀ x y, ¬ (x = 127 ∧ y = 7) → M x y = I5 x y := g6
    have hF6 := hF5.fr hk hss hG (g6.mono (fun x y c => Or.inl (by omega))) (by rw [e6 _ _ (by omega)]; exact hF5.2.2.2.1.2)
    have hA6 : ClA D (rns D K (bes D wd h) (D 339 1).toNat P) M := hA4.fr (fun x hx y => by rw [e6 x y (by omega), e5 x y (fun c => by unfold mCa at c; omega)])
    have eM : ∀ y, y ≠ 7 → M 127 y = L 127 y := fun y hy => by rw [e6 _ _ (by omega), e5 _ _ (fun c => by unfold mCa at c; omega)]; exact n127 y
    have m3 : M 127 3 = (bes D wd h).1 := (eM 3 (by decide)).trans x3
    have m4 : M 127 4 = (bes D wd h).2 := (eM 4 (by decide)).trans x4
    have m5 : M 127 5 = m := (eM 5 (by decide)).trans x5
    have m6 : M 127 6 = b + 1 := by rw [eM 6 (by decide), e3 _ _ (by omega), e2 _ _ (fun c => by unfold mWd at c; omega)]; exact w6
    have mz : dz = 303 → M 303 0 = fSd D dr sd ∧ sdR (fSd D dr sd) ∧ M 303 1 = fGm D dr sd gm := fun c => by
      have e : ∀ y, M 303 y = I2 303 y := fun y => by rw [e6 _ _ (by omega), e5 _ _ (fun c => by unfold mCa at c; omega), e4 _ _ (fun c => by unfold mSt1 at c; omega), e3 _ _ (by omega)]
      rw [e, e]
      refine ⟨(q1 c).1, ?_, (q1 c).2⟩
      unfold fSd
      rw [if_neg (by omega)]
      by_cases ch : hitD D dr sd
      · rw [cif_t ch]; exact nx_r _
      · rw [cif_f ch]; exact nx_r _
    have fM : FR (mFy o dz) I0 M := ((((hf.tr f1).tr (f2.mono (fun x y c => Or.inr (Or.inr (Or.inl c))))).tr (g3.mono (fun x y c => Or.inl (by omega)))).tr (f4.mono (fun x y c => Or.inr (Or.inl c)))).tr ((f5.mono (fun x y c => Or.inr (Or.inr (Or.inr c)))).tr (g6.mono (fun x y c => Or.inl (by omega))))
    subst hwd
    by_cases cw : who = -1
    · refine ih _ _ (fSd D dr sd) (fGm D dr sd gm) (b + 1) (k + 1) M (by omega) (by omega) hF6 hA6 hI4 (rns_PDi hPD _ (by omega)) hq' m3 m4 m5 m6 (y7.trans cw) mz fM (fun I' a hE c => hQ I' a ?_ c)
      rw [flyR, cif_t (hwho.symm.trans cw)]
      exact hE
    · have gr := gtr_r D K noon m (bes D (fWd D noon dr ((m : Int) + 1) sd) h) (rns D K (bes D (fWd D noon dr ((m : Int) + 1) sd) h) (D 339 1).toNat P) (D 339 1).toNat
      have fin : PN X d mX1_fly 161 [] [] M R5 Q := S_X1_fly_161 (hQ M hF6 (by
        rw [flyR, cif_f (fun c => cw (hwho.trans c))]
        exact ⟨y7.trans hwho, m6, m3, m4, fun c => ⟨(mz c).1, (mz c).2.2⟩⟩) fM)
      exact S_X1_fly_43 (by omega) (fun _ => fin) (fun _ => S_X1_fly_49 (by omega) (fun _ => fin) (fun _ => S_X1_fly_56 (by omega) (fun _ => fin) (fun g => absurd (y7.symm.trans g) cw)))
theorem c_fly {X : CX} {I R D K : PF} {noon o s dz dr sd gm : Int} {h : Int × Int} (hs : Shp R) (ho : R 127 0 = o) (hk : kd MF o = 6) (hr1 : R 127 1 = s) (hr2 : R 127 2 = dz) (hdz : dr = 0 ∧ dz = 0 ∨ dr = 1 ∧ dz = 303) (hss : s = 111 ∨ s = 119) (hG : GD D) (hW : WD D) (hK : KG D K) (hn : bd noon) (hF : ClF D K noon o s I) (hq : inQ D h) (h6 : dz = 303 → I 303 0 = sd ∧ sdR sd ∧ I 303 1 = gm) :
    CN X 5 mX1_fly [(2, 127), (0, 9 * h.2 + h.1)] I R (fun _ I' R' => ClF D K noon o s I' ∧ EndC (flyR D K noon dr (D 341 4).toNat h (P0 K) sd gm 0) dz I' ∧ FR (mFy o dz) I I' ∧ R' = R) := by
  refine callee_b (by decide +kernel) (Nat.le_of_ble_eq_true rfl) rfl ?_
  have hGd := hG.1
  have hko := sq_o hk
  obtain ⟨b1, b2, b3, b4⟩ := id hq
  have t1 : (9 * h.2 + h.1).tmod 9 = h.1 := by rw [Int.tmod_eq_emod_of_nonneg (by omega)]; omega
  have t2 : (9 * h.2 + h.1).tdiv 9 = h.2 := by rw [Int.tdiv_eq_ediv_of_nonneg (by omega)]; omega
  have g3 : FR (fun x y => x = 127 ∧ 3 ≤ y ∧ y ≤ 7) I (u2 (u2 (u2 (u2 (u2 I 127 3 h.1) 127 4 h.2) 127 5 ((u2 (u2 I 127 3 h.1) 127 4 h.2) o 4)) 127 6 0) 127 7 (-1)) := ((((FR_u2 ⟨rfl, by decide, by decide⟩).tr (FR_u2 ⟨rfl, by decide, by decide⟩)).tr (FR_u2 ⟨rfl, by decide, by decide⟩)).tr (FR_u2 ⟨rfl, by decide, by decide⟩)).tr (FR_u2 ⟨rfl, by decide, by decide⟩)
  have x7 : (u2 (u2 (u2 (u2 (u2 I 127 3 h.1) 127 4 h.2) 127 5 ((u2 (u2 I 127 3 h.1) 127 4 h.2) o 4)) 127 6 0) 127 7 (-1)) 127 7 = -1 := u2_at
  have x6 : (u2 (u2 (u2 (u2 (u2 I 127 3 h.1) 127 4 h.2) 127 5 ((u2 (u2 I 127 3 h.1) 127 4 h.2) o 4)) 127 6 0) 127 7 (-1)) 127 6 = 0 := by rw [u2_j (by decide), u2_at]
  have x5 : (u2 (u2 (u2 (u2 (u2 I 127 3 h.1) 127 4 h.2) 127 5 ((u2 (u2 I 127 3 h.1) 127 4 h.2) o 4)) 127 6 0) 127 7 (-1)) 127 5 = D 341 4 := by
    rw [u2_j (by decide), u2_j (by decide), u2_at, u2_o (by omega), u2_o (by omega)]; exact hF.1.1.2.2.2.2
  have x4 : (u2 (u2 (u2 (u2 (u2 I 127 3 h.1) 127 4 h.2) 127 5 ((u2 (u2 I 127 3 h.1) 127 4 h.2) o 4)) 127 6 0) 127 7 (-1)) 127 4 = h.2 := by rw [u2_j (by decide), u2_j (by decide), u2_j (by decide), u2_at]
  have x3 : (u2 (u2 (u2 (u2 (u2 I 127 3 h.1) 127 4 h.2) 127 5 ((u2 (u2 I 127 3 h.1) 127 4 h.2) o 4)) 127 6 0) 127 7 (-1)) 127 3 = h.1 := by rw [u2_j (by decide), u2_j (by decide), u2_j (by decide), u2_j (by decide), u2_at]
  have e3 : ∀ x y, ¬ (x = 127 ∧ 3 ≤ y ∧ y ≤ 7) → (u2 (u2 (u2 (u2 (u2 I 127 3 h.1) 127 4 h.2) 127 5 ((u2 (u2 I 127 3 h.1) 127 4 h.2) o 4)) 127 6 0) 127 7 (-1)) x y = I x y := g3
  have hF1 := hF.fr hk hss hG (g3.mono (fun x y c => Or.inl c)) (by rw [e3 _ _ (by omega)]; exact hF.2.2.2.1.2)
  refine S_X1_fly_0 (d1 := 1) (by omega) ho hk (by omega) (Q1 := fun _ I' R' => ClA D (P0 K) I' ∧ FR mSt1 (u2 (u2 (u2 (u2 (u2 I 127 3 h.1) 127 4 h.2) 127 5 ((u2 (u2 I 127 3 h.1) 127 4 h.2) o 4)) 127 6 0) 127 7 (-1)) I' ∧ R' = R) ?_ (fun z I1 R1 q => ?_)
  · rw [t1, t2]
    exact c_gather hs ho hk hr1 hss hF1.1 hG hK.2.2.2.1 hF1.2.2.1
  obtain ⟨hA, f1, rfl⟩ := q
  generalize u2 (u2 (u2 (u2 (u2 I 127 3 h.1) 127 4 h.2) 127 5 ((u2 (u2 I 127 3 h.1) 127 4 h.2) o 4)) 127 6 0) 127 7 (-1) = J at *
  have e1 : ∀ x y, ¬ mSt1 x y → I1 x y = J x y := f1
  have n127 : ∀ y, I1 127 y = J 127 y := fun y => e1 _ _ (fun c => by unfold mSt1 at c; omega)
  have hF2 := hF1.fr hk hss hG (mSt1_Cf f1) (by rw [e1 _ _ (fun c => by unfold mSt1 at c; omega)]; exact hF1.2.2.2.1.2)
  refine S_X1_fly_41 ?_
  refine fly_loop (I0 := I) (K := K) (s := s) hs (Nat.le_refl _) ho hk hr1 hr2 hdz hss hG hW hK hn (D 341 4).toNat h (P0 K) sd gm 0 0 I1 (Int.le_refl _) (by omega) hF2 hA hK.2.2.2.1 hK.2.2.2.2.1 hq ((n127 3).trans x3) ((n127 4).trans x4) (by rw [n127, x5]; omega) ((n127 6).trans x6) ((n127 7).trans x7) (fun c => ?_) ((g3.mono (fun x y c => Or.inl c)).tr (f1.mono (fun x y c => Or.inr (Or.inl c)))) (fun I' a b c => ⟨a, b, c, rfl⟩)
  rw [e1 _ _ (fun c => by unfold mSt1 at c; omega), e1 _ _ (fun c => by unfold mSt1 at c; omega), e3 _ _ (by omega), e3 _ _ (by omega)]
  exact h6 c
