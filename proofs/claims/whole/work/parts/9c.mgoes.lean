/-! ===== the model's flight, beat by beat ===== -/
def hitD (D : PF) (dr sd : Int) : Prop := dr ≠ 0 ∧ drw 100 sd < D 306 48
noncomputable def fWd (D : PF) (noon dr hg sd : Int) : Int := cif (hitD D dr sd) (drw 9 (nx sd)) (wndV D noon hg)
noncomputable def fSd (D : PF) (dr sd : Int) : Int := if dr = 0 then sd else cif (hitD D dr sd) (nx (nx sd)) (nx sd)
noncomputable def fGm (D : PF) (dr sd gm : Int) : Int := cif (hitD D dr sd) (gm + 1) gm
/-- who gets it, at which beat, where the hat is, the seed and the gusts behind it -/
noncomputable def flyR (D K : PF) (noon dr : Int) : Nat → (Int × Int) → (Int → Int × Int) → Int → Int → Int → (Int × Int × (Int × Int) × Int × Int)
  | 0, h, _, sd, gm, b => (-1, b, h, sd, gm)
  | k + 1, h, P, sd, gm, b =>
    cif (gtr D K noon k (bes D (fWd D noon dr ((k : Int) + 1) sd) h) (rns D K (bes D (fWd D noon dr ((k : Int) + 1) sd) h) (D 339 1).toNat P) (D 339 1).toNat = -1)
      (flyR D K noon dr k (bes D (fWd D noon dr ((k : Int) + 1) sd) h) (rns D K (bes D (fWd D noon dr ((k : Int) + 1) sd) h) (D 339 1).toNat P) (fSd D dr sd) (fGm D dr sd gm) (b + 1))
      (gtr D K noon k (bes D (fWd D noon dr ((k : Int) + 1) sd) h) (rns D K (bes D (fWd D noon dr ((k : Int) + 1) sd) h) (D 339 1).toNat P) (D 339 1).toNat, b + 1, bes D (fWd D noon dr ((k : Int) + 1) sd) h, fSd D dr sd, fGm D dr sd gm)
/-- the cells tell the end of a flight -/
def EndM (r : Int × Int × (Int × Int) × Int × Int) (I : PF) : Prop := I 306 69 = r.1 ∧ I 306 70 = r.2.1 ∧ I 306 64 = r.2.2.1.1 ∧ I 306 65 = r.2.2.1.2 ∧ I 306 78 = r.2.2.2.1 ∧ I 306 71 = r.2.2.2.2
theorem beat_loop {X : CX} {d : Nat} {R : PF} {Q : PV → PF → PF → Prop} {I0 D K : PF} {noon dr : Int} (hs : Shp R) (hd : 5 ≤ d) (hG : GD D) (hW : WD D) (hK : KB D K) (hn : bd noon) (hdr : inR dr) :
    ∀ (k : Nat) (h : Int × Int) (P : Int → Int × Int) (sd gm b : Int) (I : PF), k ≤ 9 → FlM D K noon I → PosM (D 339 1) P I → PIn D P → inQ D h → I 306 64 = h.1 → I 306 65 = h.2 → I 306 66 = k → I 306 69 = -1 → I 306 70 = b → I 306 71 = gm → I 306 78 = sd → sdR sd → I 306 49 = D 306 48 → FR mFl I0 I →
    (∀ I', FR mFl I0 I' → EndM (flyR D K noon dr k h P sd gm b) I' → Q (9, 0) I' R) → PN X d mX11_goes 116 [(2, 306), (9, 0), (9, 0), (9, 0), (0, dr)] [] I R Q := by
  intro k
  obtain ⟨g48, -⟩ := hG.2.2.2.2.2.2.2.2
  induction k with
  | zero =>
    intro h P sd gm b I hk hF hP hI hq h1 h2 h3 h4 h5 h6 h7 h8 h9 hf hQ
    refine S_X11_goes_116 (by omega) (fun g => absurd h4 g) (fun _ => ?_)
    refine S_X11_goes_124 (by omega) (fun _ => ?_) (fun g => by omega)
    exact S_X11_goes_260 (hQ I hf ⟨h4, h5, h1, h2, h7, h6⟩)
  | succ k ih =>
    intro h P sd gm b I hk hF hP hI hq h1 h2 h3 h4 h5 h6 h7 h8 h9 hf hQ
    have h3 : I 306 66 = (k : Int) + 1 := by omega
    refine S_X11_goes_116 (by omega) (fun g => absurd h4 g) (fun _ => ?_)
    refine S_X11_goes_124 (by omega) (fun g => by omega) (fun _ => ?_)
    refine S_X11_goes_131 (d1 := 3) (by omega) (c_windNow hs hF hG hW hK hn h3 (by unfold bd; omega)) (fun z I1 R1 q => ?_)
    obtain ⟨(hz : z = _), f1, rfl⟩ := q
    have e1 : ∀ x y, ¬ mW x y → I1 x y = I x y := fun x y c => f1 x y c
    have hF1 := hF.fr (mW_Fl f1)
    have hP1 : PosM (D 339 1) P I1 := hP.fr (fun x y c => e1 x y (by unfold mW; omega))
    have wr := wndV_r D noon ((k : Int) + 1)
    -- the wind is known
    have go : ∀ (wd : Int) (I2 : PF), wd = fWd D noon dr ((k : Int) + 1) sd → 0 ≤ wd ∧ wd < 9 → I2 306 78 = fSd D dr sd → I2 306 71 = fGm D dr sd gm → sdR (fSd D dr sd) → FR (fun x y => x = 306 ∧ (y = 78 ∨ y = 71)) I1 I2 → PN X d mX11_goes 173 [(2, 306), (9, 0), (9, 0), (9, 0), (0, dr), (0, wd)] [] I2 R1 Q := fun wd I2 hwd hwr s78 s71 ssr f2 => by
      have e2 : ∀ x y, ¬ (x = 306 ∧ (y = 78 ∨ y = 71)) → I2 x y = I1 x y := fun x y c => f2 x y c
      have f2' : FR mFl I1 I2 := f2.mono (fun x y c => by unfold mFl; omega)
      have hF2 := hF1.fr f2'
      have hP2 : PosM (D 339 1) P I2 := hP1.fr (fun x y c => e2 x y (by omega))
      have k1 : I2 306 64 = h.1 := by rw [e2 _ _ (by decide), e1 _ _ (by unfold mW; omega)]; exact h1
      have k2 : I2 306 65 = h.2 := by rw [e2 _ _ (by decide), e1 _ _ (by unfold mW; omega)]; exact h2
      refine S_X11_goes_173 (d1 := 1) (by omega) (c_drifts hs hF2.1 hG hq k1 k2 hwr) (fun z3 I3 R3 q => ?_)
      obtain ⟨q1, q2, f3, rfl⟩ := q
      have e3 : ∀ x y, ¬ (x = 306 ∧ (y = 64 ∨ y = 65)) → I3 x y = I2 x y := fun x y c => f3 x y c
      have f3' : FR mFl I2 I3 := f3.mono (fun x y c => by unfold mFl; omega)
      have hF3 := hF2.fr f3'
      have hP3 : PosM (D 339 1) P I3 := hP2.fr (fun x y c => e3 x y (by omega))
      have hq' := bes_in (w := wd) hG hq
      refine S_X11_goes_179 ?_
      have e4 : ∀ x y, ¬ (x = 306 ∧ (y = 66 ∨ y = 70)) → u2 (u2 I3 306 66 (I3 306 66 - 1)) 306 70 (u2 I3 306 66 (I3 306 66 - 1) 306 70 + 1) x y = I3 x y := fun x y c => ((FR_u2 (P := fun a b => a = 306 ∧ (b = 66 ∨ b = 70)) ⟨rfl, Or.inl rfl⟩).tr (FR_u2 ⟨rfl, Or.inr rfl⟩)) x y c
      have j66 : u2 (u2 I3 306 66 (I3 306 66 - 1)) 306 70 (u2 I3 306 66 (I3 306 66 - 1) 306 70 + 1) 306 66 = k := by
        rw [u2_j (by decide), u2_at, e3 _ _ (by decide), e2 _ _ (by decide), e1 _ _ (by unfold mW; omega), h3]; omega
      have j70 : u2 (u2 I3 306 66 (I3 306 66 - 1)) 306 70 (u2 I3 306 66 (I3 306 66 - 1) 306 70 + 1) 306 70 = b + 1 := by
        rw [u2_at, u2_j (by decide), e3 _ _ (by decide), e2 _ _ (by decide), e1 _ _ (by unfold mW; omega), h5]
      generalize u2 (u2 I3 306 66 (I3 306 66 - 1)) 306 70 (u2 I3 306 66 (I3 306 66 - 1) 306 70 + 1) = J at e4 j66 j70
      have f4' : FR mFl I3 J := fun x y c => e4 x y (fun k => c (by unfold mFl; omega))
      have hF4 := hF3.fr f4'
      have hP4 : PosM (D 339 1) P J := hP3.fr (fun x y c => e4 x y (by omega))
      refine runs_loop (I0 := J) (P := P) (h := bes D wd h) hs hd hG hK hI hq' (fun I5 f5 p5 => ?_) _ 0 J (Nat.lt_succ_self _) (by have := hG.2.1; omega) hF4 hP4 ((e4 _ _ (by decide)).trans q1) ((e4 _ _ (by decide)).trans q2) FR.rf
      have e5 : ∀ x y, ¬ mSp x y → I5 x y = J x y := fun x y c => f5 x y c
      have hF5 := hF4.fr (mSp_Fl f5)
      have i66 : I5 306 66 = k := by rw [e5 _ _ (by unfold mSp; omega)]; exact j66
      have i64 : I5 306 64 = (bes D wd h).1 := by rw [e5 _ _ (by unfold mSp; omega), e4 _ _ (by decide)]; exact q1
      have i65 : I5 306 65 = (bes D wd h).2 := by rw [e5 _ _ (by unfold mSp; omega), e4 _ _ (by decide)]; exact q2
      have hI5 := rns_in (K := K) (h := bes D wd h) hI (D 339 1).toNat
      refine S_X11_goes_249 (d1 := 4) (by omega) (c_getter hs hF5 hG hW hK hn i66 (by unfold bd; omega) p5 hI5 hq' i64 i65) (fun who I6 R6 q => ?_)
      obtain ⟨(hwho : who = _), f6, rfl⟩ := q
      have e6 : ∀ x y, ¬ mW x y → I6 x y = I5 x y := fun x y c => f6 x y c
      refine S_X11_goes_254 ?_
      have e7 : ∀ x y, ¬ (x = 306 ∧ y = 69) → u2 I6 306 69 who x y = I6 x y := fun x y c => (FR_u2 (P := fun a b => a = 306 ∧ b = 69) ⟨rfl, rfl⟩) x y c
      have w69 : u2 I6 306 69 who 306 69 = who := u2_at
      generalize u2 I6 306 69 who = L at e7 w69
      have f7' : FR mFl I6 L := fun x y c => e7 x y (fun k => c (by unfold mFl; omega))
      have ft : FR mFl I5 L := (mW_Fl f6).tr f7'
      have eL : ∀ x y, ¬ (mW x y ∨ mSp x y ∨ (x = 306 ∧ (y = 69 ∨ y = 66 ∨ y = 70))) → L x y = I3 x y := fun x y c => by
        rw [e7 x y (fun k => c (by omega)), e6 x y (fun k => c (Or.inl k)), e5 x y (fun k => c (Or.inr (Or.inl k))), e4 x y (fun k => c (by omega))]
      have l64 : L 306 64 = (bes D wd h).1 := by rw [eL _ _ (by unfold mW mSp; omega)]; exact q1
      have l65 : L 306 65 = (bes D wd h).2 := by rw [eL _ _ (by unfold mW mSp; omega)]; exact q2
      have l66 : L 306 66 = k := by rw [e7 _ _ (by decide), e6 _ _ (by unfold mW; omega)]; exact i66
      have l70 : L 306 70 = b + 1 := by rw [e7 _ _ (by decide), e6 _ _ (by unfold mW; omega), e5 _ _ (by unfold mSp; omega)]; exact j70
      have l71 : L 306 71 = fGm D dr sd gm := by rw [eL _ _ (by unfold mW mSp; omega), e3 _ _ (by decide)]; exact s71
      have l78 : L 306 78 = fSd D dr sd := by rw [eL _ _ (by unfold mW mSp; omega), e3 _ _ (by decide)]; exact s78
      have l49 : L 306 49 = D 306 48 := by rw [eL _ _ (by unfold mW mSp; omega), e3 _ _ (by decide), e2 _ _ (by decide), e1 _ _ (by unfold mW; omega)]; exact h9
      have lP : PosM (D 339 1) (rns D K (bes D wd h) (D 339 1).toNat P) L := p5.fr (fun x y c => by rw [e7 x y (by omega), e6 x y (by unfold mW; omega)])
      have fL : FR mFl I0 L := (((((hf.tr (mW_Fl f1)).tr f2').tr f3').tr f4').tr (mSp_Fl f5)).tr ft
      subst hwd
      by_cases cw : who = -1
      · refine ih _ _ (fSd D dr sd) (fGm D dr sd gm) (b + 1) L (by omega) (hF5.fr ft) lP hI5 hq' l64 l65 l66 (w69.trans cw) l70 l71 l78 ssr l49 fL (fun I' fI' hE => hQ I' fI' ?_)
        rw [flyR, cif_t (hwho.symm.trans cw)]
        exact hE
      · have gr := gtr_r D K noon k (bes D (fWd D noon dr ((k : Int) + 1) sd) h) (rns D K (bes D (fWd D noon dr ((k : Int) + 1) sd) h) (D 339 1).toNat P) (D 339 1).toNat
        have := hG.2.1
        refine S_X11_goes_116 (by omega) (fun _ => ?_) (fun g => absurd (w69.symm.trans g) cw)
        refine S_X11_goes_260 (hQ L fL ?_)
        rw [flyR, cif_f (fun c => cw (hwho.trans c))]
        exact ⟨w69.trans hwho, l70, l64, l65, l78, l71⟩
    have s1 : I1 306 78 = sd := by rw [e1 _ _ (by unfold mW; omega)]; exact h7
    have g1 : I1 306 71 = gm := by rw [e1 _ _ (by unfold mW; omega)]; exact h6
    have u1 : I1 306 49 = D 306 48 := by rw [e1 _ _ (by unfold mW; omega)]; exact h9
    refine S_X11_goes_135 hdr (fun g => ?_) (fun g => ?_)
    · have nh : ¬ hitD D dr sd := fun c => c.1 g
      have es : fSd D dr sd = sd := by unfold fSd; rw [if_pos g]
      refine go z I1 (by unfold fWd; rw [cif_f nh]; exact hz) (by omega) (by rw [es]; exact s1) (by unfold fGm; rw [cif_f nh]; exact g1) (by rw [es]; exact h8) FR.rf
    · refine S_X11_goes_142 (d1 := 0) (by omega) (c_drawOf s1 h8 (by decide)) (fun z2 I2 R2 q => ?_)
      obtain ⟨(hz2 : z2 = _), q2, f2, rfl⟩ := q
      have e2 : ∀ x y, ¬ (x = 306 ∧ y = 78) → I2 x y = I1 x y := fun x y c => f2 x y c
      have dr1 := drw_r sd (show (0 : Int) < 100 by decide)
      have u2' : I2 306 49 = D 306 48 := by rw [e2 _ _ (by decide)]; exact u1
      refine S_X11_goes_148 (by omega) (by omega) (fun g2 => ?_) (fun g2 => ?_)
      · have nh : ¬ hitD D dr sd := fun c => by have := c.2; omega
        have es : fSd D dr sd = nx sd := by unfold fSd; rw [if_neg g, cif_f nh]
        refine go z I2 (by unfold fWd; rw [cif_f nh]; exact hz) (by omega) (by rw [es]; exact q2) (by unfold fGm; rw [cif_f nh, e2 _ _ (by decide)]; exact g1) (by rw [es]; exact nx_r sd) (f2.mono (fun x y c => by omega))
      · have yh : hitD D dr sd := ⟨g, by omega⟩
        have es : fSd D dr sd = nx (nx sd) := by unfold fSd; rw [if_neg g, cif_t yh]
        refine S_X11_goes_155 (d1 := 0) (by omega) (c_drawOf q2 (nx_r sd) (by decide)) (fun z3 I3 R3 q => ?_)
        obtain ⟨(hz3 : z3 = _), q3, f3, rfl⟩ := q
        have e3 : ∀ x y, ¬ (x = 306 ∧ y = 78) → I3 x y = I2 x y := fun x y c => f3 x y c
        have dr2 := drw_r (nx sd) (show (0 : Int) < 9 by decide)
        refine S_X11_goes_161 ?_
        refine go z3 _ (by unfold fWd; rw [cif_t yh]; exact hz3) (by omega) (by rw [es, u2_j (by decide)]; exact q3) (by unfold fGm; rw [cif_t yh, u2_at, e3 _ _ (by decide), e2 _ _ (by decide), g1]) (by rw [es]; exact nx_r _) (((f2.mono (fun x y c => by omega)).tr (f3.mono (fun x y c => by omega))).tr (FR_u2 ⟨rfl, Or.inr rfl⟩))
