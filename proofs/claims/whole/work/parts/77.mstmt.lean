/-! ===== the model reads a statement, a square ===== -/
/-- reading only goes forward -/
def leS (s s' : SA) : Prop := ∀ q', s' = .inl q' → ∃ q, s = .inl q ∧ q.1 ≤ q'.1
theorem leS.rf (s : SA) : leS s s := fun q' e => ⟨q', e, Int.le_refl _⟩
theorem leS.tr {a b c : SA} (h : leS a b) (g : leS b c) : leS a c := fun q' e => by
  obtain ⟨q1, e1, l1⟩ := g q' e
  obtain ⟨q2, e2, l2⟩ := h q1 e1
  exact ⟨q2, e2, by omega⟩
theorem leS.ci {s a b : SA} {c : Prop} (h : leS s a) (g : leS s b) : leS s (cif c a b) := by
  by_cases x : c
  · rw [cif_t x]; exact h
  · rw [cif_f x]; exact g
theorem leS.it {s a b : SA} {c : Prop} {d : Decidable c} (h : leS s a) (g : leS s b) : leS s (if c then a else b) := by
  by_cases x : c
  · rw [if_pos x]; exact h
  · rw [if_neg x]; exact g
theorem le_flt {s s' : SA} {k p : Int} : leS s (fltA k p s') := fun q' e => (fltA_in e).elim
theorem le_askC {t : Int → Int} {n c : Int} (hc : c ≠ 0) (s : SA) : leS s (askC t n c s) := fun q' e => by
  obtain ⟨q, e1, e2, e3⟩ := askC_in hc e
  have := goT_lt (tw_w e2 hc)
  exact ⟨q, e1, by rw [e3]; simp only; omega⟩
theorem le_numS {t : Int → Int} {n lo hi : Int} (s : SA) : leS s (numS t n lo hi s) := fun q' e => by
  obtain ⟨q, e1, e2⟩ := numS_in e
  have := num_lt e2
  exact ⟨q, e1, by omega⟩
theorem le_namS {t : Int → Int} {n : Int} (s : SA) : leS s (namS t n s) := fun q' e => by
  cases s with
  | inr f => cases e
  | inl q =>
    obtain ⟨e1, -, e3⟩ := nam_ok e
    have := goT_lt e1
    exact ⟨q, rfl, by rw [e3]; simp only; omega⟩
theorem le_goT {t : Int → Int} {n : Int} (s : SA) : leS s (goT t n s) := fun q' e => by
  cases s with
  | inr f => cases e
  | inl q =>
    have s1 := skp_ge t n q.1
    have s2 := run_ge isL t n (skp t n q.1)
    cases e
    exact ⟨q, rfl, by simp only; omega⟩
theorem askS_in {t : Int → Int} {n c : Int} {s : SA} {q' : Int × Bool} (hc : c ≠ -1) (h : askS t n c s = .inl q') : ∃ q, s = .inl q ∧ nxt t n (.inl q) = c ∧ q' = (skp t n q.1 + 1, false) := by
  cases s with
  | inr f =>
    unfold askS at h
    rw [if_neg (fun e => hc (by rw [← e]; rfl))] at h
    cases h
  | inl q =>
    unfold askS at h
    by_cases g : nxt t n (.inl q) = c
    · rw [if_pos g] at h; cases h; exact ⟨q, rfl, g, rfl⟩
    · rw [if_neg g] at h; cases h
theorem le_askS {t : Int → Int} {n c : Int} (hc : c ≠ -1) (s : SA) : leS s (askS t n c s) := fun q' e => by
  obtain ⟨q, e1, e2, e3⟩ := askS_in hc e
  have := skp_ge t n q.1
  exact ⟨q, e1, by rw [e3]; simp only; omega⟩
theorem le_newS {t : Int → Int} {n : Int} {D : PF} (s : SA) : leS s (newS t n D s) := leS.ci le_flt (le_namS s)
theorem le_plaS {t : Int → Int} {n : Int} {D : PF} {tw : Prop} (s : SA) : leS s (plaS t n D tw s) := leS.ci le_flt ((le_numS s).tr (le_numS _))
theorem le_prZ {t : Int → Int} {n : Int} {D : PF} (s : SA) : leS s (prZ t n D s) := by
  have h2 : leS s (pr2 t n D s) := (le_newS s).tr (le_askC (by decide) _)
  have h4 : leS s (pr4 t n D s) := (h2.tr (le_plaS _)).tr (le_askC (by decide) _)
  have h6 : leS s (pr6 t n D s) := (h4.tr (le_numS _)).tr (le_askC (by decide) _)
  have h8 : leS s (pr8 t n D s) := (h6.tr (le_numS _)).tr (le_askC (by decide) _)
  have h9 : leS s (pr9 t n D s) := h8.tr (leS.ci le_flt (le_namS _))
  have hB : leS s (prB t n D s) := ((h9.tr (le_goT _)).tr (le_numS _)).tr (le_askC (by decide) _)
  exact leS.it (hB.tr (le_numS _)) h9
theorem le_fSA {t : Int → Int} {n w : Int} (s : SA) : leS s (fSA t n w s) := fun q' e => by
  obtain ⟨q, r, e1, -, -, -, e5, -⟩ := fSA_in e
  exact ⟨q, e1, by omega⟩
/-- what a statement tells, ahead of its last sign -/
noncomputable def stmB (t : Int → Int) (n : Int) (D : PF) (s : SA) : SA :=
  if tw t n s = 173171034 then lawS t n D (plS t n s) (goT t n s) else if tw t n s = 232608281 then perS t n D (plS t n s) (goT t n s) else if tw t n s = 330801246 then walS t n D (plS t n s) (goT t n s)
    else if tw t n s = 335086821 then codS t n D 0 (plS t n s) (goT t n s) else if tw t n s = 187559307 then codS t n D 1 (plS t n s) (goT t n s) else gusS t n s
theorem stmS_B {t : Int → Int} {n : Int} {D : PF} {c : Int} {s : SA} (hc : c ≠ 60) : stmS t n D c s = askS t n 59 (stmB t n D s) := by
  unfold stmS stmB; rw [if_neg hc]
theorem le_stmB {t : Int → Int} {n : Int} {D : PF} (s : SA) : leS s (stmB t n D s) :=
  leS.it ((le_goT s).tr (leS.ci le_flt (le_newS _))) (leS.it ((le_goT s).tr (leS.ci le_flt (le_prZ _))) (leS.it ((le_goT s).tr (leS.ci le_flt (le_plaS _)))
    (leS.it ((le_goT s).tr (leS.ci le_flt (le_fSA _))) (leS.it ((le_goT s).tr (leS.ci le_flt (le_fSA _))) ((le_askC (by decide) s).tr (le_numS _))))))
theorem codS_in {t : Int → Int} {n : Int} {D : PF} {w b : Int} {s : SA} {q' : Int × Bool} (h : codS t n D w b s = .inl q') : D 345 w = -1 ∧ fSA t n w s = .inl q' := by
  unfold codS at h
  by_cases c : D 345 w ≠ -1
  · rw [cif_t c] at h; exact (fltA_in h).elim
  · rw [cif_f c] at h
    exact ⟨by by_cases e : D 345 w = -1; exact e; exact absurd e c, h⟩
/-- the codes told never outrun the text -/
theorem stm_53 {t : Int → Int} {n : Int} {D : PF} {s : SA} {q' : Int × Bool} (h : stmB t n D s = .inl q') (h0 : ∀ q, s = .inl q → D 306 53 ≤ q.1) : stmD t n D s 306 53 ≤ q'.1 := by
  obtain ⟨q, rfl, le⟩ := le_stmB s q' h
  have h0 := h0 q rfl
  have hg := le_goT (t := t) (n := n) (.inl q)
  have cod : ∀ w b, codS t n D w b (goT t n (.inl q)) = .inl q' → codD t n D w (goT t n (.inl q)) 306 53 ≤ q'.1 := fun w b hc => by
    obtain ⟨-, h2⟩ := codS_in hc
    obtain ⟨q1, r, e1, e2, e3, e4, e5, e6⟩ := fSA_in h2
    obtain ⟨q0, e7, e8⟩ := hg q1 e1
    cases e7
    unfold codD
    rw [if_neg (fun c => by omega), if_neg (fun c => by omega), if_pos ⟨rfl, rfl⟩, e4, List.length_reverse]
    omega
  unfold stmB at h
  unfold stmD
  by_cases c1 : tw t n (.inl q) = 173171034
  · rw [if_pos c1] at h ⊢
    unfold lawD
    rw [u2_o (by decide), u2_o (by decide)]; omega
  rw [if_neg c1] at h ⊢
  by_cases c2 : tw t n (.inl q) = 232608281
  · rw [if_pos c2] at h ⊢
    unfold perD
    iterate 9 rw [u2_o (by decide)]
    omega
  rw [if_neg c2] at h ⊢
  by_cases c3 : tw t n (.inl q) = 330801246
  · rw [if_pos c3] at h ⊢
    unfold walD
    iterate 3 rw [u2_o (by decide)]
    omega
  rw [if_neg c3] at h ⊢
  by_cases c4 : tw t n (.inl q) = 335086821
  · rw [if_pos c4] at h ⊢; exact cod 0 _ h
  rw [if_neg c4] at h ⊢
  by_cases c5 : tw t n (.inl q) = 187559307
  · rw [if_pos c5] at h ⊢; exact cod 1 _ h
  rw [if_neg c5]
  unfold gusD
  rw [u2_j (by decide)]; omega
theorem MO.rd {t : Int → Int} {n c : Int} {s : SA} {D I I' : PF} (hc : c ≠ -1) (h : MO t n s D I) (h1 : MSt t n (askS t n c s) I') (g : FR mRd I I') : MO t n (askS t n c s) D I' := by
  cases hx : askS t n c s with
  | inr f => rw [hx] at h1; exact ⟨h1, h.st.2.rd g⟩
  | inl q' =>
    rw [hx] at h1
    obtain ⟨q, e, -⟩ := askS_in hc hx
    rw [e] at h
    exact ⟨h1, h.2.1.fr g (fun x y c => tD_rd c), h.2.2.1.rd g, h.2.2.2⟩
theorem MO.w54 {t : Int → Int} {n v : Int} {s : SA} {D I : PF} (h : MO t n s D I) : MO t n s D (u2 I 306 54 v) := by
  have g : FR (fun x y => x = 306 ∧ y = 54) I (u2 I 306 54 v) := FR_u2 ⟨rfl, rfl⟩
  have m := h.st.1.fr g (fun x y c => by omega)
  have c := h.st.2.rows (I' := u2 I 306 54 v) (fun a ha => u2_row (by omega))
  cases s with
  | inl q => exact ⟨m, h.2.1.fr g (fun x y c d => by unfold tD at c; omega), c, h.2.2.2⟩
  | inr f => exact ⟨m, c⟩
def mS (x y : Int) : Prop := mT x y ∨ (x = 306 ∧ y = 54)
theorem mT_54 {I J : PF} (h : FR mT I J) : J 306 54 = I 306 54 := h 306 54 (fun c => by unfold mT mPl tD mQ at c; omega)
theorem c_statementTold {X : CX} {I R : PF} {t : Int → Int} {n c : Int} {q : Int × Bool} {D : PF} (hs : Shp R) (h : MG t n (.inl q) D I) (h2 : I 306 2 = skp t n q.1) (h54 : I 306 54 = c) (hc : 0 ≤ c ∧ c ≤ 60) (h53 : D 306 53 ≤ q.1) :
    CN X 11 mX11_statementTold [(2, 306)] I R (fun _ I' R' => MO t n (stmS t n D c (.inl q)) (stmD t n D (.inl q)) I' ∧ FR mS I I' ∧ R' = R ∧ (∀ q', stmS t n D c (.inl q) = .inl q' → I' 306 54 = c + 1)) := by
  refine callee_b (by decide +kernel) (Nat.le_of_ble_eq_true rfl) rfl ?_
  refine S_X11_statementTold_0 (by omega) (fun g => ?_) (fun g => ?_)
  rotate_left
  · have e : stmS t n D c (.inl q) = .inr (5, skp t n q.1) := by unfold stmS; rw [if_pos (by omega)]; rfl
    rw [e]
    refine S_X11_statementTold_14 (d1 := 1) (by omega) (c_failA h.1 (by decide)) (fun z I2 R2 p => ?_)
    obtain ⟨m1, f1, rfl⟩ := p
    rw [h2] at m1
    exact S_X11_statementTold_20 ⟨⟨m1, h.2.2.1.rd f1⟩, (rdT f1).mono (fun x y c => Or.inl c), rfl, fun q' e => by cases e⟩
  have c60 : c ≠ 60 := by omega
  rw [stmS_B c60, h2]
  have hb : plS t n (.inl q) = skp t n q.1 := rfl
  -- the last sign
  have fin : ∀ (I1 : PF) (s1 : SA) (D1 : PF), MO t n s1 D1 I1 → stmB t n D (.inl q) = s1 → stmD t n D (.inl q) = D1 → FR mT I I1 → PN X 11 mX11_statementTold 137 [(2, 306)] [] I1 R (fun _ I' R' => MO t n (askS t n 59 (stmB t n D (.inl q))) (stmD t n D (.inl q)) I' ∧ FR mS I I' ∧ R' = R ∧ (∀ q', askS t n 59 (stmB t n D (.inl q)) = .inl q' → I' 306 54 = c + 1)) := fun I1 s1 D1 k1 k3 k4 k2 => by
    rw [k3, k4]
    refine S_X11_statementTold_137 (d1 := 3) (by omega) (c_asksSign hs k1.st.1 (c := 59) (by decide)) (fun z I2 R2 p => ?_)
    obtain ⟨m2, f2, rfl⟩ := p
    refine S_X11_statementTold_143 ⟨(MO.rd (by decide) k1 m2 f2).w54, ((k2.tr (rdT f2)).mono (fun x y c => Or.inl c)).tr (FR_u2 (Or.inr ⟨rfl, rfl⟩)), rfl, fun q' e => ?_⟩
    rw [u2_at, mT_54 (k2.tr (rdT f2)), h54]
  -- a word that is asked for: here it is, or the next is tried
  have tr : ∀ (a w : Int) (J : PF), (a, w) ∈ wcs → MG t n (.inl q) D J → CN X 3 mX11_takes [(2, 306), (2, a)] J R (fun v I' R' => v.2 = bi (tw t n (.inl q) = w) ∧ MG t n (takW t n w (.inl q)) D I' ∧ FR mRd J I' ∧ R' = R) := fun a w J ha hJ =>
    (w_takes ha hs hJ.1 hJ.2.2.1).mono (fun v I' R' p => ⟨p.1, hJ.rd p.2.1 p.2.2.1, p.2.2.1, p.2.2.2.1⟩)
  have no : ∀ w, tw t n (.inl q) ≠ w → takW t n w (.inl q) = .inl q := fun w c => by unfold takW; rw [if_neg c]
  have yes : ∀ w, tw t n (.inl q) = w → takW t n w (.inl q) = goT t n (.inl q) := fun w c => by unfold takW; rw [if_pos c]
  have h53g : ∀ q1, goT t n (.inl q) = .inl q1 → D 306 53 ≤ q1.1 := fun q1 e => by
    obtain ⟨q0, e0, l0⟩ := le_goT (t := t) (n := n) (.inl q) q1 e
    cases e0; omega
  refine S_X11_statementTold_21 (d1 := 3) hs (by omega) (tr 313 173171034 I (by decide) h) (fun z I1 R1 p => ?_)
  obtain ⟨(hz0 : z = _), G0, f0, rfl⟩ := p
  have br := bi_r (tw t n (.inl q) = 173171034)
  have F0 := f0
  refine S_X11_statementTold_29 (by omega) (fun g => ?_) (fun g => ?_)
  rotate_left
  · have cw := bi_1 (by rw [← hz0]; exact g)
    rw [yes _ cw] at G0
    refine S_X11_statementTold_32 (d1 := 6) (by omega) (c_lawTold hs G0) (fun z2 I2 R2 p => ?_)
    obtain ⟨k1, k2, rfl⟩ := p
    exact S_X11_statementTold_37 (fin I2 _ _ k1 (by unfold stmB; rw [if_pos cw]; rfl) (by unfold stmD; rw [if_pos cw]) ((rdT F0).tr k2))
  have n0 := bi_0 (hz0.symm.trans g)
  rw [no _ n0] at G0
  refine S_X11_statementTold_40 (d1 := 3) hs (by omega) (tr 314 232608281 I1 (by decide) G0) (fun z I3 R1 p => ?_)
  obtain ⟨(hz1 : z = _), G1, f1, rfl⟩ := p
  have br := bi_r (tw t n (.inl q) = 232608281)
  have F1 := (F0.tr f1)
  refine S_X11_statementTold_48 (by omega) (fun g => ?_) (fun g => ?_)
  rotate_left
  · have cw := bi_1 (by rw [← hz1]; exact g)
    rw [yes _ cw] at G1
    refine S_X11_statementTold_51 (d1 := 6) (by omega) (c_personTold hs G1) (fun z2 I2 R2 p => ?_)
    obtain ⟨k1, k2, rfl⟩ := p
    exact S_X11_statementTold_56 (fin I2 _ _ k1 (by unfold stmB; rw [if_neg n0, if_pos cw]; rfl) (by unfold stmD; rw [if_neg n0, if_pos cw]) ((rdT F1).tr k2))
  have n1 := bi_0 (hz1.symm.trans g)
  rw [no _ n1] at G1
  refine S_X11_statementTold_59 (d1 := 3) hs (by omega) (tr 321 330801246 I3 (by decide) G1) (fun z I5 R1 p => ?_)
  obtain ⟨(hz2 : z = _), G2, f2, rfl⟩ := p
  have br := bi_r (tw t n (.inl q) = 330801246)
  have F2 := (F1.tr f2)
  refine S_X11_statementTold_67 (by omega) (fun g => ?_) (fun g => ?_)
  rotate_left
  · have cw := bi_1 (by rw [← hz2]; exact g)
    rw [yes _ cw] at G2
    refine S_X11_statementTold_70 (d1 := 4) (by omega) (c_wallTold hs G2) (fun z2 I2 R2 p => ?_)
    obtain ⟨k1, k2, rfl⟩ := p
    exact S_X11_statementTold_75 (fin I2 _ _ k1 (by unfold stmB; rw [if_neg n0, if_neg n1, if_pos cw]; rfl) (by unfold stmD; rw [if_neg n0, if_neg n1, if_pos cw]) ((rdT F2).tr k2))
  have n2 := bi_0 (hz2.symm.trans g)
  rw [no _ n2] at G2
  refine S_X11_statementTold_78 (d1 := 3) hs (by omega) (tr 322 335086821 I5 (by decide) G2) (fun z I7 R1 p => ?_)
  obtain ⟨(hz3 : z = _), G3, f3, rfl⟩ := p
  have br := bi_r (tw t n (.inl q) = 335086821)
  have F3 := (F2.tr f3)
  refine S_X11_statementTold_86 (by omega) (fun g => ?_) (fun g => ?_)
  rotate_left
  · have cw := bi_1 (by rw [← hz3]; exact g)
    rw [yes _ cw] at G3
    refine S_X11_statementTold_89 (d1 := 10) (by omega) (c_codesTold (w := 0) hs G3 (by decide) h53g) (fun z2 I2 R2 p => ?_)
    obtain ⟨k1, k2, rfl⟩ := p
    exact S_X11_statementTold_95 (fin I2 _ _ k1 (by unfold stmB; rw [if_neg n0, if_neg n1, if_neg n2, if_pos cw]; rfl) (by unfold stmD; rw [if_neg n0, if_neg n1, if_neg n2, if_pos cw]) ((rdT F3).tr k2))
  have n3 := bi_0 (hz3.symm.trans g)
  rw [no _ n3] at G3
  refine S_X11_statementTold_98 (d1 := 3) hs (by omega) (tr 323 187559307 I7 (by decide) G3) (fun z I9 R1 p => ?_)
  obtain ⟨(hz4 : z = _), G4, f4, rfl⟩ := p
  have br := bi_r (tw t n (.inl q) = 187559307)
  have F4 := (F3.tr f4)
  refine S_X11_statementTold_106 (by omega) (fun g => ?_) (fun g => ?_)
  rotate_left
  · have cw := bi_1 (by rw [← hz4]; exact g)
    rw [yes _ cw] at G4
    refine S_X11_statementTold_109 (d1 := 10) (by omega) (c_codesTold (w := 1) hs G4 (by decide) h53g) (fun z2 I2 R2 p => ?_)
    obtain ⟨k1, k2, rfl⟩ := p
    exact S_X11_statementTold_115 (fin I2 _ _ k1 (by unfold stmB; rw [if_neg n0, if_neg n1, if_neg n2, if_neg n3, if_pos cw]; rfl) (by unfold stmD; rw [if_neg n0, if_neg n1, if_neg n2, if_neg n3, if_pos cw]) ((rdT F4).tr k2))
  have n4 := bi_0 (hz4.symm.trans g)
  rw [no _ n4] at G4
  refine S_X11_statementTold_118 (d1 := 4) hs (by omega) (w_asks (a := 324) (c := 111991167) (by decide) hs G4.1 G4.2.2.1) (fun z J1 R1 p => ?_)
  obtain ⟨m1, f5, rfl⟩ := p
  have G5 := G4.rd m1 f5
  refine S_X11_statementTold_126 (d1 := 2) (by omega) (c_number hs G5.1 (by decide) (by decide)) (fun y J2 R2 p => ?_)
  obtain ⟨y1, y2, m2, f6, rfl, v2⟩ := p
  have G6 := G5.rd m2 f6
  simp only at y1 y2 v2
  have fJ : FR mT I (u2 J2 306 48 y) := (rdT (F4.tr (f5.tr f6))).tr (tDT (by unfold tD; omega))
  have t48 : tD 306 48 := by unfold tD; omega
  refine S_X11_statementTold_134 (fin _ (gusS t n (.inl q)) (gusD t n D (.inl q)) ?_ (by unfold stmB; rw [if_neg n0, if_neg n1, if_neg n2, if_neg n3, if_neg n4]) (by unfold stmD; rw [if_neg n0, if_neg n1, if_neg n2, if_neg n3, if_neg n4]) fJ)
  have G7 : MG t n (gusS t n (.inl q)) D J2 := G6
  cases hg : gusS t n (.inl q) with
  | inr f => rw [hg] at G7; exact ⟨G7.1.u t48, G7.2.2.1.u t48⟩
  | inl q' =>
    rw [hg] at G7
    have hg' : numS t n 0 100 (askC t n 111991167 (.inl q)) = .inl q' := hg
    obtain ⟨q1, e1, e2⟩ := numS_in hg'
    obtain ⟨w1, w2, w3, -⟩ := v2 q1 q' e1 hg'
    have eD : gusD t n D (.inl q) = u2 D 306 48 y := by unfold gusD; rw [e1, w1]; rfl
    rw [eD]
    exact ⟨G7.1.u t48, G7.2.1.u, G7.2.2.1.u t48, GD_gus G7.2.2.2 ⟨w2, w3⟩⟩
