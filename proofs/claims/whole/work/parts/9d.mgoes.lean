/-! ===== the model's goes ===== -/
def P0 (K : PF) : Int → Int × Int := fun p => (K 348 (3 + 5 * p), K 348 (3 + 5 * p + 1))
theorem bes_0 {D : PF} {p : Int × Int} (h : inQ D p) : bes D 0 p = p := by
  obtain ⟨h1, h2, h3, h4⟩ := h
  have ex : bex D p.1 0 = p.1 := by unfold bex; rw [show stX 0 = 0 by decide]; omega
  have ey : bey D p.2 0 = p.2 := by unfold bey; rw [show stY 0 = 0 by decide]; omega
  unfold bes
  by_cases c : wlT D (bex D p.1 0) (bey D p.2 0)
  · rw [cif_t c]
  · rw [cif_f c, ex, ey]
theorem bit_0 {D : PF} {p : Int × Int} (h : inQ D p) : ∀ j : Nat, bit D 0 j p = p
  | 0 => rfl
  | j + 1 => by
    show bes D 0 (bit D 0 j p) = p
    rw [bit_0 h j]; exact bes_0 h
def mGo (x y : Int) : Prop := mFl x y ∨ (x = 306 ∧ y = 61)
theorem put_loop {X : CX} {d : Nat} {R : PF} {Q : PV → PF → PF → Prop} {I0 D K : PF} {noon way fce dr : Int} (hs : Shp R) (hd : 5 ≤ d) (hG : GD D)
    (hQ : ∀ I', FR mSp I0 I' → PosM (D 339 1) (P0 K) I' → PN X d mX11_goes 92 [(2, 306), (0, way), (0, fce), (9, 0), (0, dr)] [] I' R Q) : ∀ (m k : Nat) (I : PF), (D 339 1).toNat - k < m → (k : Int) ≤ D 339 1 → FlM D K noon I → PosM k (P0 K) I → FR mSp I0 I →
    PN X d mX11_goes 51 [(2, 306), (0, way), (0, fce), (9, 0), (0, dr), (0, (k : Int))] [] I R Q := by
  intro m
  have hD := hG.2.1
  induction m with
  | zero => intro k I h; exact absurd h (Nat.not_lt_zero _)
  | succ m ih =>
    intro k I hm hk hF hP hf
    have e4 : I 339 4 = D 339 1 := hF.1.2.2.2.1
    have e5 : I 348 = K 348 := hF.2.2.2.1
    refine S_X11_goes_51 (d1 := 0) (by omega) (callee_b (Q := fun v I' R' => v.2 = I 339 4 ∧ I' = I ∧ R' = R) (by decide +kernel) (Nat.le_of_ble_eq_true rfl) rfl (S_X11_personMany_0 hs ⟨rfl, rfl, rfl⟩)) (fun z I1 R1 q => ?_)
    obtain ⟨(hz : z = _), rfl, rfl⟩ := q
    refine S_X11_goes_57 (by omega) (by omega) (fun g => ?_) (fun g => ?_)
    · refine hQ I1 hf ?_
      rw [show D 339 1 = (k : Int) by omega]
      exact hP
    refine S_X11_goes_60 (d1 := 0) hs (by omega) (callee_b (Q := fun v I' R' => v.2 = I1 348 (3 + 5 * (k : Int)) ∧ I' = I1 ∧ R' = R1) (by decide +kernel) (Nat.le_of_ble_eq_true rfl) rfl (S_X11_columnOf_0 hs (by omega) ⟨rfl, rfl, rfl⟩)) (fun x I2 R2 q => ?_)
    obtain ⟨(hx : x = _), rfl, rfl⟩ := q
    refine S_X11_goes_72 (d1 := 0) hs (by omega) (by omega) (callee_b (Q := fun v I' R' => v.2 = u2 I2 351 k x 348 (3 + 5 * (k : Int) + 1) ∧ I' = u2 I2 351 k x ∧ R' = R2) (by decide +kernel) (Nat.le_of_ble_eq_true rfl) rfl (S_X11_rowOf_0 hs (by omega) ⟨rfl, rfl, rfl⟩)) (fun y I3 R3 q => ?_)
    obtain ⟨(hy : y = _), rfl, rfl⟩ := q
    rw [u2_o (by decide)] at hy
    refine S_X11_goes_85 (by omega) ?_
    have ff : FR mSp I2 (u2 (u2 I2 351 k x) 352 k y) := (FR_u2 (Or.inl rfl)).tr (FR_u2 (Or.inr rfl))
    have := ih (k + 1) (u2 (u2 I2 351 k x) 352 k y) (by omega) (by omega) (hF.fr (mSp_Fl ff)) (fun p p0 p1 => ?_) (hf.tr ff)
    · rw [show ((k + 1 : Nat) : Int) = (k : Int) + 1 by omega] at this
      exact this
    · by_cases c : p = k
      · rw [c, u2_o (by decide), u2_at, u2_at, hx, hy, e5]; exact ⟨rfl, rfl⟩
      · rw [u2_o (by decide), u2_j c, u2_j c, u2_o (by decide)]; exact hP p p0 (by omega)
theorem dri_loop {X : CX} {d : Nat} {R : PF} {Q : PV → PF → PF → Prop} {I0 D K : PF} {noon way fce dr : Int} {p : Int × Int} (hs : Shp R) (hd : 5 ≤ d) (hG : GD D) (hq : inQ D p) (hw : 0 ≤ way ∧ way < 9) (hfc : 0 ≤ fce ∧ fce ≤ 3)
    (hQ : ∀ I', FR mFl I0 I' → FR (fun x y => x = 306 ∧ (y = 64 ∨ y = 65)) I0 I' → I' 306 64 = (bit D way fce.toNat p).1 → I' 306 65 = (bit D way fce.toNat p).2 → PN X d mX11_goes 116 [(2, 306), (9, 0), (9, 0), (9, 0), (0, dr)] [] I' R Q) : ∀ (m k : Nat) (I : PF), fce.toNat - k < m → (k : Int) ≤ fce → FlM D K noon I → I 306 64 = (bit D way k p).1 → I 306 65 = (bit D way k p).2 → FR (fun x y => x = 306 ∧ (y = 64 ∨ y = 65)) I0 I →
    PN X d mX11_goes 95 [(2, 306), (0, way), (0, fce), (9, 0), (0, dr), (0, (k : Int))] [] I R Q := by
  intro m
  induction m with
  | zero => intro k I h; exact absurd h (Nat.not_lt_zero _)
  | succ m ih =>
    intro k I hm hk hF h1 h2 hf
    have ffl : FR mFl I0 I := hf.mono (fun x y c => by unfold mFl; omega)
    refine S_X11_goes_95 (by omega) (by omega) (fun g => ?_) (fun g => ?_)
    · have : fce.toNat = k := by omega
      exact hQ I ffl hf (by rw [this]; exact h1) (by rw [this]; exact h2)
    refine S_X11_goes_101 (by omega) (fun g2 => ?_) (fun g2 => ?_)
    · obtain rfl : way = 0 := by omega
      rw [bit_0 hq] at h1 h2
      exact hQ I ffl hf (by rw [bit_0 hq]; exact h1) (by rw [bit_0 hq]; exact h2)
    refine S_X11_goes_105 (d1 := 1) (by omega) (c_drifts hs hF.1 hG (bit_in hG hq k) h1 h2 hw) (fun z I1 R1 q => ?_)
    obtain ⟨q1, q2, f1, rfl⟩ := q
    refine S_X11_goes_110 ?_
    have := ih (k + 1) I1 (by omega) (by omega) (hF.fr (f1.mono (fun x y c => by unfold mFl; omega))) q1 q2 (hf.tr f1)
    rw [show ((k + 1 : Nat) : Int) = (k : Int) + 1 by omega] at this
    exact this
theorem c_goes {X : CX} {I R D K : PF} {noon way fce dr : Int} (hs : Shp R) (hF : FlM D K (I 306 61) I) (hT : I 341 7 = D 341 2 ∧ I 341 8 = D 341 3 ∧ I 341 9 = D 341 4) (h49 : I 306 49 = D 306 48) (hG : GD D) (hW : WD D) (hK : KB D K) (hI : PIn D (P0 K)) (hn : bd noon) (hdr : inR dr) (hw : 0 ≤ way ∧ way < 9) (hfc : 0 ≤ fce ∧ fce ≤ 3) (hsd : sdR (I 306 78)) :
    CN X 5 mX11_goes [(2, 306), (0, way), (0, fce), (0, noon), (0, dr)] I R (fun _ I' R' => EndM (flyR D K noon dr (D 341 4).toNat (bit D way fce.toNat (D 341 2, D 341 3)) (P0 K) (I 306 78) (I 306 71) 0) I' ∧ FR mGo I I' ∧ R' = R) := by
  refine callee_b (by decide +kernel) (Nat.le_of_ble_eq_true rfl) rfl ?_
  have hq := inQ_t hG
  have hd := hG.1
  refine S_X11_goes_0 hs ?_
  have e : ∀ x y, ¬ (x = 306 ∧ (y = 64 ∨ y = 65 ∨ y = 66 ∨ y = 61 ∨ y = 69 ∨ y = 70)) → u2 (u2 (u2 (u2 (u2 (u2 I 306 64 (I 341 7)) 306 65 ((u2 I 306 64 (I 341 7)) 341 8)) 306 66 ((u2 (u2 I 306 64 (I 341 7)) 306 65 ((u2 I 306 64 (I 341 7)) 341 8)) 341 9)) 306 61 noon) 306 69 (-1)) 306 70 0 x y = I x y := fun x y c =>
    ((((((FR_u2 (P := fun a b => a = 306 ∧ (b = 64 ∨ b = 65 ∨ b = 66 ∨ b = 61 ∨ b = 69 ∨ b = 70)) ⟨rfl, by decide⟩).tr (FR_u2 ⟨rfl, by decide⟩)).tr (FR_u2 ⟨rfl, by decide⟩)).tr (FR_u2 ⟨rfl, by decide⟩)).tr (FR_u2 ⟨rfl, by decide⟩)).tr (FR_u2 ⟨rfl, by decide⟩)) x y c
  have v70 : u2 (u2 (u2 (u2 (u2 (u2 I 306 64 (I 341 7)) 306 65 ((u2 I 306 64 (I 341 7)) 341 8)) 306 66 ((u2 (u2 I 306 64 (I 341 7)) 306 65 ((u2 I 306 64 (I 341 7)) 341 8)) 341 9)) 306 61 noon) 306 69 (-1)) 306 70 0 306 70 = 0 := u2_at
  have v69 : u2 (u2 (u2 (u2 (u2 (u2 I 306 64 (I 341 7)) 306 65 ((u2 I 306 64 (I 341 7)) 341 8)) 306 66 ((u2 (u2 I 306 64 (I 341 7)) 306 65 ((u2 I 306 64 (I 341 7)) 341 8)) 341 9)) 306 61 noon) 306 69 (-1)) 306 70 0 306 69 = -1 := by rw [u2_j (by decide), u2_at]
  have v61 : u2 (u2 (u2 (u2 (u2 (u2 I 306 64 (I 341 7)) 306 65 ((u2 I 306 64 (I 341 7)) 341 8)) 306 66 ((u2 (u2 I 306 64 (I 341 7)) 306 65 ((u2 I 306 64 (I 341 7)) 341 8)) 341 9)) 306 61 noon) 306 69 (-1)) 306 70 0 306 61 = noon := by rw [u2_j (by decide), u2_j (by decide), u2_at]
  have v66 : u2 (u2 (u2 (u2 (u2 (u2 I 306 64 (I 341 7)) 306 65 ((u2 I 306 64 (I 341 7)) 341 8)) 306 66 ((u2 (u2 I 306 64 (I 341 7)) 306 65 ((u2 I 306 64 (I 341 7)) 341 8)) 341 9)) 306 61 noon) 306 69 (-1)) 306 70 0 306 66 = D 341 4 := by
    rw [u2_j (by decide), u2_j (by decide), u2_j (by decide), u2_at, u2_o (by decide), u2_o (by decide)]; exact hT.2.2
  have v65 : u2 (u2 (u2 (u2 (u2 (u2 I 306 64 (I 341 7)) 306 65 ((u2 I 306 64 (I 341 7)) 341 8)) 306 66 ((u2 (u2 I 306 64 (I 341 7)) 306 65 ((u2 I 306 64 (I 341 7)) 341 8)) 341 9)) 306 61 noon) 306 69 (-1)) 306 70 0 306 65 = D 341 3 := by
    rw [u2_j (by decide), u2_j (by decide), u2_j (by decide), u2_j (by decide), u2_at, u2_o (by decide)]; exact hT.2.1
  have v64 : u2 (u2 (u2 (u2 (u2 (u2 I 306 64 (I 341 7)) 306 65 ((u2 I 306 64 (I 341 7)) 341 8)) 306 66 ((u2 (u2 I 306 64 (I 341 7)) 306 65 ((u2 I 306 64 (I 341 7)) 341 8)) 341 9)) 306 61 noon) 306 69 (-1)) 306 70 0 306 64 = D 341 2 := by
    rw [u2_j (by decide), u2_j (by decide), u2_j (by decide), u2_j (by decide), u2_j (by decide), u2_at]; exact hT.1
  generalize u2 (u2 (u2 (u2 (u2 (u2 I 306 64 (I 341 7)) 306 65 ((u2 I 306 64 (I 341 7)) 341 8)) 306 66 ((u2 (u2 I 306 64 (I 341 7)) 306 65 ((u2 I 306 64 (I 341 7)) 341 8)) 341 9)) 306 61 noon) 306 69 (-1)) 306 70 0 = J at e v70 v69 v61 v66 v65 v64
  have fJ : FR mGo I J := fun x y c => e x y (fun k => c (by unfold mGo mFl; omega))
  have hFJ : FlM D K noon J := by
    obtain ⟨g1, ⟨g2, g3⟩, g4, g5, -⟩ := hF
    refine ⟨g1.fr (fun x y c => e x y (by omega)), ⟨fun w hw => ?_, fun j j0 j1 => ?_⟩, ?_, ?_, v61⟩
    · rw [e _ _ (by omega), e 346 _ (by omega)]; exact g2 w hw
    · rw [e _ _ (by omega)]; exact g3 j j0 j1
    · rw [← g4]; funext y; exact e _ _ (by omega)
    · rw [← g5]; funext y; exact e _ _ (by omega)
  refine put_loop (I0 := J) (K := K) (noon := noon) hs (Nat.le_refl _) hG (fun I1 f1 p1 => ?_) _ 0 J (Nat.lt_succ_self _) (by have := hG.2.1; omega) hFJ (fun p p0 p1 => by omega) FR.rf
  have e1 : ∀ x y, ¬ mSp x y → I1 x y = J x y := fun x y c => f1 x y c
  refine S_X11_goes_92 ?_
  refine dri_loop (I0 := I1) (K := K) (noon := noon) (p := (D 341 2, D 341 3)) hs (Nat.le_refl _) hG hq hw hfc (fun I2 f2 f2' k1 k2 => ?_) _ 0 I1 (Nat.lt_succ_self _) hfc.1 (hFJ.fr (mSp_Fl f1)) ((e1 _ _ (by unfold mSp; omega)).trans v64) ((e1 _ _ (by unfold mSp; omega)).trans v65) FR.rf
  have e2 : ∀ x y, ¬ (x = 306 ∧ (y = 64 ∨ y = 65)) → I2 x y = I1 x y := fun x y c => f2' x y c
  have eJ : ∀ y, y ≠ 64 → y ≠ 65 → I2 306 y = J 306 y := fun y y1 y2 => by rw [e2 _ _ (by omega), e1 _ _ (by unfold mSp; omega)]
  refine beat_loop (I0 := J) hs (Nat.le_refl _) hG hW hK hn hdr (D 341 4).toNat _ (P0 K) (I 306 78) (I 306 71) 0 I2 (by omega) ((hFJ.fr (mSp_Fl f1)).fr f2) (p1.fr (fun x y c => e2 x y (by omega))) hI (bit_in hG hq _) k1 k2 (by rw [eJ _ (by decide) (by decide), v66]; omega) (by rw [eJ _ (by decide) (by decide)]; exact v69) (by rw [eJ _ (by decide) (by decide)]; exact v70) (by rw [eJ _ (by decide) (by decide)]; exact e _ _ (by decide)) (by rw [eJ _ (by decide) (by decide)]; exact e _ _ (by decide)) hsd (by rw [eJ _ (by decide) (by decide), e _ _ (by decide)]; exact h49) ((mSp_Fl f1).tr f2) (fun I' f' hE => ⟨hE, fJ.tr (f'.mono (fun x y c => Or.inl c)), rfl⟩)
