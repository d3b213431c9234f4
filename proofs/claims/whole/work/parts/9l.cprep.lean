/-! ===== the class makes ready; who gets each throw ===== -/
def mPr (x y : Int) : Prop := (x = 131 ∧ y = 10) ∨ x = 132 ∨ x = 133 ∨ x = 134
theorem c_forgetFlights {X : CX} {I R : PF} (hs : Shp R) : CN X 1 mX1_forgetFlights [(2, 127)] I R (fun _ I' R' => (∀ j, 0 ≤ j → j < 81 → I' 134 j = -2) ∧ FR (fun x y => x = 134) I I' ∧ R' = R) := by
  refine callee_b (by decide +kernel) (Nat.le_of_ble_eq_true rfl) rfl ?_
  have n : (ln MF 134 : Int) = 81 := nM134
  refine S_X1_forgetFlights_0 (d1 := 0) hs (by omega) (c_fill kM134 (by omega)) (fun z I1 R1 q => ?_)
  obtain ⟨q1, q2, rfl⟩ := q
  exact S_X1_forgetFlights_9 ⟨fun j j0 j1 => q1 j j0 (by omega), q2.mono (fun x y c => c.1), rfl⟩
def pR (R : PF) (a b c : Int) : PF := u2 (u2 (u2 R 127 0 a) 127 1 b) 127 2 c
theorem pR_fr (R : PF) (a b c : Int) : FR (fun x y => x = 127 ∧ y ≤ 2) R (pR R a b c) := ((FR_u2 ⟨rfl, by decide⟩).tr (FR_u2 ⟨rfl, by decide⟩)).tr (FR_u2 ⟨rfl, by decide⟩)
theorem pR_v (R : PF) (a b c : Int) : pR R a b c 127 0 = a ∧ pR R a b c 127 1 = b ∧ pR R a b c 127 2 = c := by
  unfold pR
  exact ⟨by rw [u2_j (by decide), u2_j (by decide), u2_at], by rw [u2_j (by decide), u2_at], u2_at⟩
theorem pR_s {R : PF} (h : Shp R) (a b c : Int) : Shp (pR R a b c) := h.fr ((pR_fr R a b c).mono (fun x y c => by unfold mR; omega))
theorem c_prepare {X : CX} {I R : PF} {a b c x3 : Int} (hs : Shp R) : CN X 2 mX1_prepare [(2, 127), (2, a), (2, b), (0, x3), (2, c)] I R (fun _ I' R' => I' 131 10 = x3 ∧ (∀ j, 0 ≤ j → j < 10 → I' 132 j = -2) ∧ (∀ j, 0 ≤ j → j < 60 → I' 133 j = -2) ∧ (∀ j, 0 ≤ j → j < 81 → I' 134 j = -2) ∧ FR mPr I I' ∧ R' = pR R a b c) := by
  refine callee_b (by decide +kernel) (Nat.le_of_ble_eq_true rfl) rfl ?_
  have hs' := pR_s hs a b c
  have n1 : (ln MF 131 : Int) = 13 := nM131
  have n2 : (ln MF 132 : Int) = 10 := nM132
  have n3 : (ln MF 133 : Int) = 60 := nM133
  have g0 : FR (fun x y => x = 131 ∧ y = 10) I (u2 I 131 10 x3) := FR_u2 ⟨rfl, rfl⟩
  have w0 : u2 I 131 10 x3 131 10 = x3 := u2_at
  refine S_X1_prepare_0 (d1 := 0) (t1 := 131) (t2 := 132) (rM127_11 hs') kM131 (by omega) (by omega) (rM127_12 hs') (by omega) (c_fill kM132 (by omega)) (fun z I1 R1 q => ?_)
  obtain ⟨q1, q2, rfl⟩ := q
  refine S_X1_prepare_33 (d1 := 0) hs' (by omega) (c_fill kM133 (by omega)) (fun z I2 R2 q => ?_)
  obtain ⟨q3, q4, rfl⟩ := q
  refine S_X1_prepare_42 (d1 := 1) (by omega) (c_forgetFlights hs') (fun z I3 R3 q => ?_)
  obtain ⟨q5, q6, rfl⟩ := q
  refine S_X1_prepare_46 ⟨?_, fun j j0 j1 => ?_, fun j j0 j1 => ?_, q5, ?_, rfl⟩
  · rw [q6 _ _ (by decide), q4 _ _ (by omega), q2 _ _ (by omega)]; exact w0
  · rw [q6 _ _ (by omega), q4 _ _ (by omega)]; exact q1 j j0 (by omega)
  · rw [q6 _ _ (by omega)]; exact q3 j j0 (by omega)
  · exact ((g0.mono (fun x y c => Or.inl c)).tr (q2.mono (fun x y c => Or.inr (Or.inl c.1)))).tr ((q4.mono (fun x y c => Or.inr (Or.inr (Or.inl c.1)))).tr (q6.mono (fun x y c => Or.inr (Or.inr (Or.inr c)))))
/-- ready for throws in one noon -/
theorem prep_F {D K : PF} {noon o s : Int} {I I' : PF} (hk : kd MF o = 6) (hss : s = 111 ∨ s = 119) (hG : GD D) (hQ : QR D o I) (hL : LR D o I) (hS : StC D K s I) (h5 : bd (I 131 5)) (q1 : I' 131 10 = noon) (q2 : ∀ j, 0 ≤ j → j < 10 → I' 132 j = -2) (q3 : ∀ j, 0 ≤ j → j < 60 → I' 133 j = -2) (f : FR mPr I I') : ClF D K noon o s I' := by
  have ho := sq_o hk
  have hD := hG.2.1
  refine ⟨hQ.fr (fun x x0 x1 => funext fun y => f x y (fun c => by unfold mPr at c; omega)) hG, fun k k0 k1 => ?_, hS.fr ⟨by omega, by omega⟩ (fun x y c => f x y (fun k => by unfold mPr at k; unfold stC at c; omega)), ⟨q1, ?_⟩, fun k k0 k1 => Or.inl (q2 k k0 k1), fun p k p0 p1 k0 k1 => Or.inl (q3 _ (by omega) (by omega))⟩
  · rw [f _ _ (fun c => by unfold mPr at c; omega)]; exact hL k k0 k1
  · rw [f _ _ (fun c => by unfold mPr at c; omega)]; exact h5
/-- who gets a throw that comes to h -/
noncomputable def whoA (D K : PF) (noon : Int) (h : Int × Int) : Int := (flyR D K noon 0 (D 341 4).toNat h (P0 K) 0 0 0).1
theorem flyR_0 {D K : PF} {noon : Int} : ∀ (m : Nat) (h : Int × Int) (P : Int → Int × Int) (sd gm b : Int), flyR D K noon 0 m h P sd gm b = ((flyR D K noon 0 m h P 0 0 b).1, (flyR D K noon 0 m h P 0 0 b).2.1, (flyR D K noon 0 m h P 0 0 b).2.2.1, sd, gm)
  | 0, h, P, sd, gm, b => rfl
  | m + 1, h, P, sd, gm, b => by
    have nh : ∀ s, ¬ hitD D 0 s := fun s c => c.1 rfl
    have e1 : ∀ s, fWd D noon 0 ((m : Int) + 1) s = wndV D noon ((m : Int) + 1) := fun s => by unfold fWd; rw [cif_f (nh s)]
    have e2 : ∀ s, fSd D 0 s = s := fun s => by unfold fSd; rw [if_pos rfl]
    have e3 : ∀ s g, fGm D 0 s g = g := fun s g => by unfold fGm; rw [cif_f (nh s)]
    rw [flyR, flyR]
    simp only [e1, e2, e3]
    by_cases c : gtr D K noon m (bes D (wndV D noon ((m : Int) + 1)) h) (rns D K (bes D (wndV D noon ((m : Int) + 1)) h) (D 339 1).toNat P) (D 339 1).toNat = -1
    · rw [cif_t c, cif_t c]; exact flyR_0 m _ _ sd gm (b + 1)
    · rw [cif_f c, cif_f c]
theorem flyR_r {D K : PF} {noon dr : Int} (hn : 0 ≤ D 339 1) : ∀ (m : Nat) (h : Int × Int) (P : Int → Int × Int) (sd gm b : Int), (-1 ≤ (flyR D K noon dr m h P sd gm b).1 ∧ (flyR D K noon dr m h P sd gm b).1 < D 339 1) ∧ (b ≤ (flyR D K noon dr m h P sd gm b).2.1 ∧ (flyR D K noon dr m h P sd gm b).2.1 ≤ b + m)
  | 0, h, P, sd, gm, b => ⟨⟨by show (-1 : Int) ≤ -1; omega, by show -1 < D 339 1; omega⟩, by show b ≤ b; omega, by show b ≤ b + ((0 : Nat) : Int); omega⟩
  | m + 1, h, P, sd, gm, b => by
    rw [flyR]
    have gr := gtr_r D K noon m (bes D (fWd D noon dr ((m : Int) + 1) sd) h) (rns D K (bes D (fWd D noon dr ((m : Int) + 1) sd) h) (D 339 1).toNat P) (D 339 1).toNat
    by_cases c : gtr D K noon m (bes D (fWd D noon dr ((m : Int) + 1) sd) h) (rns D K (bes D (fWd D noon dr ((m : Int) + 1) sd) h) (D 339 1).toNat P) (D 339 1).toNat = -1
    · rw [cif_t c]
      have := flyR_r (D := D) (K := K) (noon := noon) (dr := dr) hn m (bes D (fWd D noon dr ((m : Int) + 1) sd) h) (rns D K (bes D (fWd D noon dr ((m : Int) + 1) sd) h) (D 339 1).toNat P) (fSd D dr sd) (fGm D dr sd gm) (b + 1)
      omega
    · rw [cif_f c]
      simp only
      omega
theorem flyR_in {D K : PF} {noon dr : Int} (hG : GD D) : ∀ (m : Nat) (h : Int × Int) (P : Int → Int × Int) (sd gm b : Int), inQ D h → inQ D (flyR D K noon dr m h P sd gm b).2.2.1
  | 0, h, P, sd, gm, b, hq => hq
  | m + 1, h, P, sd, gm, b, hq => by
    rw [flyR]
    by_cases c : gtr D K noon m (bes D (fWd D noon dr ((m : Int) + 1) sd) h) (rns D K (bes D (fWd D noon dr ((m : Int) + 1) sd) h) (D 339 1).toNat P) (D 339 1).toNat = -1
    · rw [cif_t c]; exact flyR_in hG m _ _ _ _ _ (bes_in hG hq)
    · rw [cif_f c]; exact bes_in hG hq
theorem flyR_s {D K : PF} {noon dr : Int} : ∀ (m : Nat) (h : Int × Int) (P : Int → Int × Int) (sd gm b : Int), sdR sd → sdR (flyR D K noon dr m h P sd gm b).2.2.2.1 ∧ gm ≤ (flyR D K noon dr m h P sd gm b).2.2.2.2 ∧ (flyR D K noon dr m h P sd gm b).2.2.2.2 ≤ gm + m
  | 0, h, P, sd, gm, b, hq => ⟨hq, by show gm ≤ gm; omega, by show gm ≤ gm + ((0 : Nat) : Int); omega⟩
  | m + 1, h, P, sd, gm, b, hq => by
    have h1 : sdR (fSd D dr sd) := by
      unfold fSd
      by_cases c : dr = 0
      · rw [if_pos c]; exact hq
      · rw [if_neg c]
        by_cases ch : hitD D dr sd
        · rw [cif_t ch]; exact nx_r _
        · rw [cif_f ch]; exact nx_r _
    have h2 : gm ≤ fGm D dr sd gm ∧ fGm D dr sd gm ≤ gm + 1 := by
      unfold fGm
      by_cases ch : hitD D dr sd
      · rw [cif_t ch]; omega
      · rw [cif_f ch]; omega
    rw [flyR]
    by_cases c : gtr D K noon m (bes D (fWd D noon dr ((m : Int) + 1) sd) h) (rns D K (bes D (fWd D noon dr ((m : Int) + 1) sd) h) (D 339 1).toNat P) (D 339 1).toNat = -1
    · rw [cif_t c]
      have := flyR_s (D := D) (K := K) (noon := noon) (dr := dr) m (bes D (fWd D noon dr ((m : Int) + 1) sd) h) (rns D K (bes D (fWd D noon dr ((m : Int) + 1) sd) h) (D 339 1).toNat P) (fSd D dr sd) (fGm D dr sd gm) (b + 1) h1
      exact ⟨this.1, by omega, by omega⟩
    · rw [cif_f c]
      exact ⟨h1, h2.1, by simp only; omega⟩
/-- what the notes on who gets what say -/
def WhF (D K : PF) (noon : Int) (I : PF) : Prop := ∀ x y, inQ D (x, y) → I 134 (9 * y + x) = -2 ∨ I 134 (9 * y + x) = whoA D K noon (x, y)
theorem WhF.fr {D K : PF} {noon : Int} {I I' : PF} (h : WhF D K noon I) (f : ∀ y, I' 134 y = I 134 y) : WhF D K noon I' := fun x y q => by rw [f]; exact h x y q
def mGt (o x y : Int) : Prop := mFy o 0 x y ∨ x = 134
theorem mGt_Cf {o : Int} {I J : PF} (h : FR (mGt o) I J) : ∀ x y, ¬ (mCf o x y ∨ x = 132 ∨ x = 133) → J x y = I x y := fun x y c => h x y (fun k => c (by unfold mGt mFy mSt1 mWd mCa at k; unfold mCf; omega))
theorem lnd_in {D : PF} (hG : GD D) (k : Int) : inQ D (lnd D k) := bit_in hG (inQ_t hG) _
theorem c_got {X : CX} {I R D K : PF} {noon o s k : Int} (hs : Shp R) (ho : R 127 0 = o) (hk : kd MF o = 6) (hr1 : R 127 1 = s) (hr2 : R 127 2 = 0) (hss : s = 111 ∨ s = 119) (hG : GD D) (hW : WD D) (hK : KG D K) (hn : bd noon) (hF : ClF D K noon o s I) (hN : WhF D K noon I) (h : 0 ≤ k ∧ k < 33) :
    CN X 6 mX1_got [(2, 127), (0, k)] I R (fun v I' R' => v.2 = whoA D K noon (lnd D k) ∧ ClF D K noon o s I' ∧ WhF D K noon I' ∧ FR (mGt o) I I' ∧ R' = R) := by
  refine callee_b (by decide +kernel) (Nat.le_of_ble_eq_true rfl) rfl ?_
  have hko := sq_o hk
  have hD := hG.2.1
  have hGd := hG.1
  have hl := hF.2.1 k h.1 h.2
  have hq := lnd_in hG k
  have hq' := hq
  obtain ⟨b1, b2, b3, b4⟩ := hq'
  have wn := hN (lnd D k).1 (lnd D k).2 hq
  have wr : -1 ≤ whoA D K noon (lnd D k) ∧ whoA D K noon (lnd D k) < D 339 1 := (flyR_r (by omega) _ _ _ _ _ _).1
  have e1 : ((lnd D k).1, (lnd D k).2) = lnd D k := rfl
  rw [e1] at wn
  refine S_X1_got_0 hs ho hk h (by omega) (by rw [hl]; rcases wn with c | c <;> omega) (fun g => ?_) (fun g => ?_)
  · rw [hl] at g ⊢
    exact S_X1_got_36 hs (by omega) ⟨wn.resolve_left g, hF, hN, FR.rf, rfl⟩
  rw [hl]
  refine S_X1_got_21 (d1 := 5) (by omega) (c_fly (K := K) (s := s) (sd := 0) (gm := 0) (dr := 0) (dz := 0) hs ho hk hr1 hr2 (Or.inl ⟨rfl, rfl⟩) hss hG hW hK hn hF hq (fun c => absurd c (by decide))) (fun z I1 R1 q => ?_)
  obtain ⟨hF1, hE, f1, rfl⟩ := q
  have g2 : FR (fun x y => x = 134 ∧ y = 9 * (lnd D k).2 + (lnd D k).1) I1 (u2 I1 134 (9 * (lnd D k).2 + (lnd D k).1) (I1 127 7)) := FR_u2 ⟨rfl, rfl⟩
  have w2 : (u2 I1 134 (9 * (lnd D k).2 + (lnd D k).1) (I1 127 7)) 134 (9 * (lnd D k).2 + (lnd D k).1) = whoA D K noon (lnd D k) := by rw [u2_at]; exact hE.1
  refine S_X1_got_26 hs (by omega) ?_
  generalize u2 I1 134 (9 * (lnd D k).2 + (lnd D k).1) (I1 127 7) = J at g2 w2
  refine S_X1_got_36 hs (by omega) ⟨w2, hF1.fr hk hss hG (g2.mono (fun x y c => by unfold mCf; omega)) (by rw [g2 _ _ (fun c => by omega)]; exact hF1.2.2.2.1.2), fun x y q => ?_, (f1.mono (fun x y c => Or.inl c)).tr (g2.mono (fun x y c => Or.inr c.1)), rfl⟩
  by_cases c : 9 * y + x = 9 * (lnd D k).2 + (lnd D k).1
  · have q' := q
    obtain ⟨q1, q2, q3, q4⟩ := q'
    simp only at q1 q2 q3 q4
    have : (x, y) = lnd D k := Prod.ext (by show x = (lnd D k).1; omega) (by show y = (lnd D k).2; omega)
    rw [c, this]; exact Or.inr w2
  · rw [g2 _ _ (fun k => c k.2), f1 _ _ (fun k => by unfold mFy mSt1 mWd mCa at k; omega)]; exact hN x y q
/-- the number of the first k for which P -/
noncomputable def cnt (P : Int → Prop) : Nat → Int
  | 0 => 0
  | k + 1 => cif (P k) (cnt P k + 1) (cnt P k)
theorem cnt_r (P : Int → Prop) : ∀ k : Nat, 0 ≤ cnt P k ∧ cnt P k ≤ k
  | 0 => by unfold cnt; omega
  | k + 1 => by
    have := cnt_r P k
    unfold cnt
    by_cases c : P k
    · rw [cif_t c]; omega
    · rw [cif_f c]; omega
theorem cnt_congr {P P' : Int → Prop} : ∀ (k : Nat), (∀ i : Int, 0 ≤ i → i < k → (P i ↔ P' i)) → cnt P k = cnt P' k
  | 0, _ => rfl
  | k + 1, h => by
    unfold cnt
    rw [cnt_congr k (fun i i0 i1 => h i i0 (by omega)), cif_c (h k (by omega) (by omega))]
theorem fgot_loop {X : CX} {d : Nat} {R : PF} {Q : PV → PF → PF → Prop} {I0 D K : PF} {noon o s p : Int} (hs : Shp R) (hd : 7 ≤ d) (ho : R 127 0 = o) (hk : kd MF o = 6) (hr1 : R 127 1 = s) (hr2 : R 127 2 = 0) (hss : s = 111 ∨ s = 119) (hG : GD D) (hW : WD D) (hK : KG D K) (hn : bd noon) (hp : inR p)
    (hQ : ∀ I', ClF D K noon o s I' → WhF D K noon I' → FR (mGt o) I0 I' → Q (0, fI (fun k => whoA D K noon (lnd D k) = p) 33) I' R) : ∀ (m : Nat) (k : Int) (I : PF), (33 - k).toNat < m → 0 ≤ k → k ≤ 33 → ClF D K noon o s I → WhF D K noon I → FR (mGt o) I0 I → (∀ j, 0 ≤ j → j < k → ¬ whoA D K noon (lnd D j) = p) →
    PN X d mX1_firstGot 2 [(2, 127), (0, p), (0, k)] [] I R Q := by
  intro m
  have hD := hG.2.1
  induction m with
  | zero => intro k I h; exact absurd h (Nat.not_lt_zero _)
  | succ m ih =>
    intro k I hm k0 k1 hF hN hf hj
    refine S_X1_firstGot_2 (by omega) (fun g => ?_) (fun g => ?_)
    · have e := Fst.fI (P := fun k => whoA D K noon (lnd D k) = p) (n := 33) (r := -1) (Or.inl ⟨rfl, fun i i0 i1 => hj i i0 (by omega)⟩)
      have := hQ I hF hN hf
      rw [← e] at this
      exact S_X1_firstGot_25 this
    refine S_X1_firstGot_8 (d1 := 6) (by omega) (c_got (K := K) (noon := noon) (s := s) hs ho hk hr1 hr2 hss hG hW hK hn hF hN ⟨k0, g⟩) (fun z I1 R1 q => ?_)
    obtain ⟨(hz : z = _), q1, q2, q3, rfl⟩ := q
    have wr : -1 ≤ whoA D K noon (lnd D k) ∧ whoA D K noon (lnd D k) < D 339 1 := (flyR_r (by omega) _ _ _ _ _ _).1
    refine S_X1_firstGot_13 (by omega) hp (fun g2 => ?_) (fun g2 => ?_)
    · refine S_X1_firstGot_19 (ih (k + 1) I1 (by omega) (by omega) (by omega) q1 q2 (hf.tr q3) (fun j j0 j1 => ?_))
      by_cases e : j = k
      · rw [e]; exact fun c => g2 (hz.trans c)
      · exact hj j j0 (by omega)
    · have e := Fst.fI (P := fun k => whoA D K noon (lnd D k) = p) (n := 33) (r := k) (Or.inr ⟨k0, g, hz.symm.trans g2, hj⟩)
      have := hQ I1 q1 q2 (hf.tr q3)
      rw [← e] at this
      exact S_X1_firstGot_17 this
theorem c_firstGot {X : CX} {I R D K : PF} {noon o s p : Int} (hs : Shp R) (ho : R 127 0 = o) (hk : kd MF o = 6) (hr1 : R 127 1 = s) (hr2 : R 127 2 = 0) (hss : s = 111 ∨ s = 119) (hG : GD D) (hW : WD D) (hK : KG D K) (hn : bd noon) (hF : ClF D K noon o s I) (hN : WhF D K noon I) (hp : inR p) :
    CN X 7 mX1_firstGot [(2, 127), (0, p)] I R (fun v I' R' => v.2 = fI (fun k => whoA D K noon (lnd D k) = p) 33 ∧ FR (mGt o) I I' ∧ R' = R) := by
  refine callee_b (by decide +kernel) (Nat.le_of_ble_eq_true rfl) rfl ?_
  exact S_X1_firstGot_0 (fgot_loop (I0 := I) (K := K) (noon := noon) (s := s) hs (Nat.le_refl _) ho hk hr1 hr2 hss hG hW hK hn hp (fun I' a b c => ⟨rfl, c, rfl⟩) _ 0 I (Nat.lt_succ_self _) (Int.le_refl _) (by decide) hF hN FR.rf (fun j j0 j1 => by omega))
theorem cgot_loop {X : CX} {d : Nat} {R : PF} {Q : PV → PF → PF → Prop} {I0 D K : PF} {noon o s p : Int} (hs : Shp R) (hd : 7 ≤ d) (ho : R 127 0 = o) (hk : kd MF o = 6) (hr1 : R 127 1 = s) (hr2 : R 127 2 = 0) (hss : s = 111 ∨ s = 119) (hG : GD D) (hW : WD D) (hK : KG D K) (hn : bd noon) (hp : inR p)
    (hQ : ∀ I', ClF D K noon o s I' → WhF D K noon I' → FR (mGt o) I0 I' → Q (0, cnt (fun k => whoA D K noon (lnd D k) = p) 33) I' R) : ∀ (m k : Nat) (I : PF), 33 - k < m → k ≤ 33 → ClF D K noon o s I → WhF D K noon I → FR (mGt o) I0 I →
    PN X d mX1_countGot 4 [(2, 127), (0, p), (0, cnt (fun k => whoA D K noon (lnd D k) = p) k), (0, (k : Int))] [] I R Q := by
  intro m
  have hD := hG.2.1
  induction m with
  | zero => intro k I h; exact absurd h (Nat.not_lt_zero _)
  | succ m ih =>
    intro k I hm k1 hF hN hf
    have cr := cnt_r (fun k => whoA D K noon (lnd D k) = p) k
    refine S_X1_countGot_4 (by omega) (fun g => ?_) (fun g => ?_)
    · have := hQ I hF hN hf
      rw [show 33 = k by omega] at this
      exact S_X1_countGot_28 this
    refine S_X1_countGot_10 (d1 := 6) (by omega) (c_got (K := K) (noon := noon) (s := s) hs ho hk hr1 hr2 hss hG hW hK hn hF hN ⟨by omega, g⟩) (fun z I1 R1 q => ?_)
    obtain ⟨(hz : z = _), q1, q2, q3, rfl⟩ := q
    have wr : -1 ≤ whoA D K noon (lnd D k) ∧ whoA D K noon (lnd D k) < D 339 1 := (flyR_r (by omega) _ _ _ _ _ _).1
    have nx := ih (k + 1) I1 (by omega) (by omega) q1 q2 (hf.tr q3)
    rw [show ((k + 1 : Nat) : Int) = (k : Int) + 1 by omega] at nx
    refine S_X1_countGot_15 (by omega) hp (fun g2 => ?_) (fun g2 => ?_)
    · refine S_X1_countGot_22 ?_
      rw [cnt, cif_f (fun c => g2 (hz.trans c))] at nx
      exact nx
    · refine S_X1_countGot_19 (S_X1_countGot_22 ?_)
      rw [cnt, cif_t (hz.symm.trans g2)] at nx
      exact nx
theorem c_countGot {X : CX} {I R D K : PF} {noon o s p : Int} (hs : Shp R) (ho : R 127 0 = o) (hk : kd MF o = 6) (hr1 : R 127 1 = s) (hr2 : R 127 2 = 0) (hss : s = 111 ∨ s = 119) (hG : GD D) (hW : WD D) (hK : KG D K) (hn : bd noon) (hF : ClF D K noon o s I) (hN : WhF D K noon I) (hp : inR p) :
    CN X 7 mX1_countGot [(2, 127), (0, p)] I R (fun v I' R' => v.2 = cnt (fun k => whoA D K noon (lnd D k) = p) 33 ∧ ClF D K noon o s I' ∧ FR (mGt o) I I' ∧ R' = R) := by
  refine callee_b (by decide +kernel) (Nat.le_of_ble_eq_true rfl) rfl ?_
  exact S_X1_countGot_0 (cgot_loop (I0 := I) (K := K) (noon := noon) (s := s) hs (Nat.le_refl _) ho hk hr1 hr2 hss hG hW hK hn hp (fun I' a b c => ⟨rfl, a, c, rfl⟩) _ 0 I (Nat.lt_succ_self _) (by decide) hF hN FR.rf)
