/-! ===== the model's step of a person ===== -/
def PosM (n : Int) (P : Int → Int × Int) (I : PF) : Prop := ∀ p, 0 ≤ p → p < n → I 351 p = (P p).1 ∧ I 352 p = (P p).2
def PIn (D : PF) (P : Int → Int × Int) : Prop := ∀ p, 0 ≤ p → p < D 339 1 → inQ D (P p)
def Free (D : PF) (P : Int → Int × Int) (p x y : Int) : Prop := inQ D (x, y) ∧ ¬ wlT D x y ∧ ∀ k, 0 ≤ k → k < D 339 1 → k ≠ p → ¬ ((P k).1 = x ∧ (P k).2 = y)
def stT (q : Int × Int) (w : Int) : Int × Int := (q.1 + stX w, q.2 + stY w)
def Nr (D : PF) (P : Int → Int × Int) (h : Int × Int) (p j : Int) : Prop := Free D P p (stT (P p) (j + 1)).1 (stT (P p) (j + 1)).2 ∧ far h (stT (P p) (j + 1)) < far h (P p)
/-- the way of a person's step, 0: stays -/
noncomputable def stw (D : PF) (P : Int → Int × Int) (h : Int × Int) (p : Int) : Int := fI (Nr D P h p) 8 + 1
def updP (P : Int → Int × Int) (p : Int) (q : Int × Int) : Int → Int × Int := fun k => if k = p then q else P k
noncomputable def stp (D : PF) (h : Int × Int) (P : Int → Int × Int) (p : Int) : Int → Int × Int := updP P p (stT (P p) (stw D P h p))
theorem stw_r (D : PF) (P : Int → Int × Int) (h : Int × Int) (p : Int) : 0 ≤ stw D P h p ∧ stw D P h p < 9 := by
  unfold stw
  rcases fI_fst (Nr D P h p) 8 with ⟨a1, a2⟩ | ⟨a1, a2, a3, a4⟩ <;> omega
theorem stT_0 (q : Int × Int) : stT q 0 = q := by
  unfold stT
  rw [show stX 0 = 0 by decide, show stY 0 = 0 by decide, Int.add_zero, Int.add_zero]
theorem far_st {h q : Int × Int} {w : Int} (hw : 0 ≤ w ∧ w < 9) : far h q - 1 ≤ far h (stT q w) ∧ far h (stT q w) ≤ far h q + 1 := by
  obtain ⟨s1, s2, s3, s4⟩ := stp_r' hw
  unfold far stT
  simp only
  omega
theorem stp_in {D : PF} {h : Int × Int} {P : Int → Int × Int} {p : Int} (hP : PIn D P) : PIn D (stp D h P p) := fun k k0 k1 => by
  unfold stp updP
  by_cases c : k = p
  · rw [if_pos c]
    subst c
    unfold stw
    rcases fI_fst (Nr D P h k) 8 with ⟨a1, a2⟩ | ⟨a1, a2, a3, a4⟩
    · rw [a1, show (-1 : Int) + 1 = 0 by decide, stT_0]; exact hP k k0 k1
    · exact a3.1.1
  · rw [if_neg c]; exact hP k k0 k1
theorem free_loop {X : CX} {d : Nat} {I R : PF} {Q : PV → PF → PF → Prop} {p x y : Int} {D : PF} {P : Int → Int × Int} (hs : Shp R) (hS : SqM D I) (hD : GD D) (hP : PosM (D 339 1) P I) (hI : PIn D P) (hp : inR p) (hx : inR x) (hy : inR y) (hd : 1 ≤ d)
    (hT : (∀ k, 0 ≤ k → k < D 339 1 → k ≠ p → ¬ ((P k).1 = x ∧ (P k).2 = y)) → Q (0, 1) I R) (hF : (∃ k, 0 ≤ k ∧ k < D 339 1 ∧ k ≠ p ∧ (P k).1 = x ∧ (P k).2 = y) → Q (0, 0) I R) : ∀ (m : Nat) (x4 : Int), (D 339 1 - x4).toNat < m → 0 ≤ x4 → x4 ≤ D 339 1 → (∀ k, 0 ≤ k → k < x4 → k ≠ p → ¬ ((P k).1 = x ∧ (P k).2 = y)) →
    PN X d mX11_isFree 23 [(2, 306), (0, x), (0, y), (0, p), (0, x4)] [] I R Q := by
  intro m
  obtain ⟨-, -, -, hS4, -⟩ := hS
  obtain ⟨⟨a1, a2, a3, a4, -⟩, ⟨-, -, r3, r4, -⟩, -⟩ := hD
  induction m with
  | zero => intro x4 h; exact absurd h (Nat.not_lt_zero _)
  | succ m ih =>
    intro x4 h h0 h1 hj
    refine S_X11_isFree_23 (d1 := 0) (by omega) (callee_b (Q := fun v I' R' => v.2 = I 339 4 ∧ I' = I ∧ R' = R) (by decide +kernel) (Nat.le_of_ble_eq_true rfl) rfl (S_X11_personMany_0 hs ⟨rfl, rfl, rfl⟩)) (fun z I1 R1 q => ?_)
    obtain ⟨(hz : z = _), rfl, rfl⟩ := q
    refine S_X11_isFree_29 (by omega) (by omega) (fun g => ?_) (fun g => ?_)
    · exact S_X11_isFree_68 (hT (fun k k0 k1 => hj k k0 (by omega)))
    obtain ⟨e1, e2⟩ := hP x4 h0 (by omega)
    obtain ⟨i1, i2, i3, i4⟩ := hI x4 h0 (by omega)
    have next : (x4 ≠ p → ¬ ((P x4).1 = x ∧ (P x4).2 = y)) → PN X d mX11_isFree 62 [(2, 306), (0, x), (0, y), (0, p), (0, x4)] [] I1 R1 Q := fun c => by
      refine S_X11_isFree_62 (ih (x4 + 1) (by omega) (by omega) (by omega) (fun k k0 k1 => ?_))
      by_cases e : k = x4
      · rw [e]; exact c
      · exact hj k k0 (by omega)
    refine S_X11_isFree_32 (by omega) hp (fun g2 => next (fun c => absurd g2 c)) (fun g2 => ?_)
    refine S_X11_isFree_38 hs (by omega) (by omega) hx (fun g3 => next (fun _ c => g3 (e1.trans c.1))) (fun g3 => ?_)
    refine S_X11_isFree_49 hs (by omega) (by omega) hy (fun g4 => next (fun _ c => g4 (e2.trans c.2))) (fun g4 => ?_)
    exact S_X11_isFree_60 (hF ⟨x4, h0, by omega, g2, e1.symm.trans g3, e2.symm.trans g4⟩)
theorem c_isFree {X : CX} {I R : PF} {p x y : Int} {D : PF} {P : Int → Int × Int} (hs : Shp R) (hS : SqM D I) (hD : GD D) (hP : PosM (D 339 1) P I) (hI : PIn D P) (hp : inR p) (hx : inR x) (hy : inR y) :
    CN X 3 mX11_isFree [(2, 306), (0, x), (0, y), (0, p)] I R (fun v I' R' => v.2 = bi (Free D P p x y) ∧ I' = I ∧ R' = R) := by
  refine callee_b (by decide +kernel) (Nat.le_of_ble_eq_true rfl) rfl ?_
  have hd := hD.2.1
  refine S_X11_isFree_0 (d1 := 2) (by omega) (c_isInside hs hS hD hx hy) (fun z I1 R1 q => ?_)
  obtain ⟨(hz : z = _), rfl, rfl⟩ := q
  have b1 := bi_r (inQ D (x, y))
  refine S_X11_isFree_6 (by omega) (fun g => ?_) (fun g => ?_)
  · have c := bi_0 (hz.symm.trans g)
    exact S_X11_isFree_18 ⟨(bi_f (fun q => c q.1)).symm, rfl, rfl⟩
  · have c := bi_1 (by rw [← hz]; exact g)
    refine S_X11_isFree_9 (d1 := 0) (by omega) (c_isWall hs hS hD hx hy) (fun z2 I1 R1 q => ?_)
    obtain ⟨(hz2 : z2 = _), rfl, rfl⟩ := q
    have b2 := bi_r (wlT D x y)
    refine S_X11_isFree_15 (by omega) (fun g2 => ?_) (fun g2 => ?_)
    · have c2 := bi_0 (hz2.symm.trans g2)
      refine S_X11_isFree_20 (free_loop hs hS hD hP hI hp hx hy (by omega) (fun h => ⟨(bi_t ⟨c, c2, h⟩).symm, rfl, rfl⟩) (fun ⟨k, k0, k1, k2, k3⟩ => ⟨(bi_f (fun q => q.2.2 k k0 k1 k2 k3)).symm, rfl, rfl⟩) _ 0 (Nat.lt_succ_self _) (Int.le_refl _) (by omega) (fun k k0 k1 => by omega))
    · have c2 := bi_1 (by rw [← hz2]; exact g2)
      exact S_X11_isFree_18 ⟨(bi_f (fun q => q.2.1 c2)).symm, rfl, rfl⟩
def mSp (x y : Int) : Prop := x = 351 ∨ x = 352
theorem steps_loop {X : CX} {d : Nat} {I R : PF} {Q : PV → PF → PF → Prop} {p : Int} {D : PF} {h : Int × Int} {P : Int → Int × Int} (hs : Shp R) (hd : 4 ≤ d) (hS : SqM D I) (hD : GD D) (hP : PosM (D 339 1) P I) (hI : PIn D P) (hp : 0 ≤ p ∧ p < D 339 1) (hh : inQ D h) (h1 : I 306 64 = h.1) (h2 : I 306 65 = h.2)
    (hQ : PN X d mX11_steps 93 [(2, 306), (0, p), (0, stw D P h p)] [] I R Q) : ∀ (m : Nat) (b w : Int), (9 - w).toNat < m → 1 ≤ w → w ≤ 9 → ((b = 0 ∧ ∀ j, 0 ≤ j → j < w - 1 → ¬ Nr D P h p j) ∨ (1 ≤ b ∧ b < w ∧ Nr D P h p (b - 1) ∧ ∀ j, 0 ≤ j → j < b - 1 → ¬ Nr D P h p j)) →
    PN X d mX11_steps 4 [(2, 306), (0, p), (0, b), (0, w)] [] I R Q := by
  intro m
  have hD' := hD
  obtain ⟨⟨a1, a2, a3, a4, -⟩, ⟨-, -, r3, r4, -⟩, -⟩ := hD'
  obtain ⟨e1, e2⟩ := hP p hp.1 hp.2
  obtain ⟨i1, i2, i3, i4⟩ := hI p hp.1 hp.2
  obtain ⟨j1, j2, j3, j4⟩ := hh
  induction m with
  | zero => intro b w hm; exact absurd hm (Nat.not_lt_zero _)
  | succ m ih =>
    intro b w hm w1 w9 inv
    have hb : 0 ≤ b ∧ b < 9 := by omega
    refine S_X11_steps_4 (by omega) (fun g => ?_) (fun g => ?_)
    · have : b = stw D P h p := by
        unfold stw
        rcases inv with ⟨b0, k⟩ | ⟨b1, b2, k1, k2⟩
        · have := Fst.fI (P := Nr D P h p) (n := 8) (r := -1) (Or.inl ⟨rfl, fun j j0 j1 => k j j0 (by omega)⟩)
          omega
        · have := Fst.fI (P := Nr D P h p) (n := 8) (r := b - 1) (Or.inr ⟨by omega, by omega, k1, k2⟩)
          omega
      rw [this]; exact hQ
    have hw : 0 ≤ w ∧ w < 9 := by omega
    obtain ⟨s1, s2, s3, s4⟩ := stp_r' hw
    obtain ⟨t1, t2, t3, t4⟩ := stp_r' hb
    have hst : stT (P p) w = ((P p).1 + stX w, (P p).2 + stY w) := rfl
    have hNr : Nr D P h p (w - 1) ↔ Free D P p ((P p).1 + stX w) ((P p).2 + stY w) ∧ far h ((P p).1 + stX w, (P p).2 + stY w) < far h (P p) := by
      unfold Nr; rw [show w - 1 + 1 = w by omega, hst]
    have next : ∀ b', ((b' = 0 ∧ ∀ j, 0 ≤ j → j < w ∧ True → ¬ Nr D P h p j) ∨ (1 ≤ b' ∧ b' < w + 1 ∧ Nr D P h p (b' - 1) ∧ ∀ j, 0 ≤ j → j < b' - 1 → ¬ Nr D P h p j)) → PN X d mX11_steps 87 [(2, 306), (0, p), (0, b'), (0, w)] [] I R Q := fun b' hb' => by
      refine S_X11_steps_87 (ih b' (w + 1) (by omega) (by omega) (by omega) ?_)
      rcases hb' with ⟨c1, c2⟩ | c
      · exact Or.inl ⟨c1, fun j j0 j1 => c2 j j0 ⟨by omega, trivial⟩⟩
      · exact Or.inr c
    have stay : (b = 0 → ¬ Nr D P h p (w - 1)) → PN X d mX11_steps 87 [(2, 306), (0, p), (0, b), (0, w)] [] I R Q := fun c => by
      refine next b ?_
      rcases inv with ⟨b0, k⟩ | ⟨b1, b2, k1, k2⟩
      · refine Or.inl ⟨b0, fun j j0 j1 => ?_⟩
        by_cases e : j = w - 1
        · rw [e]; exact c b0
        · exact k j j0 (by omega)
      · exact Or.inr ⟨b1, by omega, k1, k2⟩
    refine S_X11_steps_10 (d1 := 0) hs (by omega) (by omega) (c_across hw) (fun z I1 R1 q => ?_)
    obtain ⟨(hz : z = _), rfl, rfl⟩ := q
    subst hz
    refine S_X11_steps_20 (d1 := 0) hs (by omega) (by omega) (c_down hw) (fun z I1 R1 q => ?_)
    obtain ⟨(hz : z = _), rfl, rfl⟩ := q
    subst hz
    rw [e1, e2]
    refine S_X11_steps_33 (d1 := 3) (by omega) (c_isFree hs hS hD hP hI (by unfold inR; omega) (by unfold inR; omega) (by unfold inR; omega)) (fun z I1 R1 q => ?_)
    obtain ⟨(hz : z = _), rfl, rfl⟩ := q
    have br := bi_r (Free D P p ((P p).1 + stX w) ((P p).2 + stY w))
    refine S_X11_steps_45 (by omega) (fun g2 => ?_) (fun g2 => ?_)
    · have c := bi_0 (hz.symm.trans g2)
      exact stay (fun _ k => c (hNr.mp k).1)
    have cF := bi_1 (by rw [← hz]; exact g2)
    refine S_X11_steps_48 (d1 := 0) (by omega) (c_farFrom h1 h2 (by omega) (by omega) (by omega)) (fun f1 I1 R1 q => ?_)
    obtain ⟨(hf1 : f1 = _), rfl, rfl⟩ := q
    refine S_X11_steps_56 (d1 := 0) hs (by omega) (by omega) (c_across hb) (fun z I1 R1 q => ?_)
    obtain ⟨(hz : z = _), rfl, rfl⟩ := q
    subst hz
    refine S_X11_steps_67 (d1 := 0) hs (by omega) (by omega) (c_down hb) (fun z I1 R1 q => ?_)
    obtain ⟨(hz : z = _), rfl, rfl⟩ := q
    subst hz
    rw [e1, e2]
    refine S_X11_steps_78 (d1 := 0) (by omega) (c_farFrom h1 h2 (by omega) (by omega) (by omega)) (fun f2 I1 R1 q => ?_)
    obtain ⟨(hf2 : f2 = _), rfl, rfl⟩ := q
    have eb : far h ((P p).1 + stX b, (P p).2 + stY b) = far h (stT (P p) b) := rfl
    have ew : far h ((P p).1 + stX w, (P p).2 + stY w) = far h (stT (P p) w) := rfl
    have fw := far_st (h := h) (q := P p) hw
    have fb := far_st (h := h) (q := P p) hb
    have fr : far h (P p) ≤ 100 ∧ -100 ≤ far h (P p) := by unfold far; omega
    refine S_X11_steps_82 (by omega) (by omega) (fun g3 => ?_) (fun g3 => ?_)
    · refine stay (fun b0 k => ?_)
      have kk := (hNr.mp k).2
      rw [b0, stT_0] at eb
      rw [b0, eb] at hf2
      omega
    · rcases inv with ⟨b0, k'⟩ | ⟨b1, b2, k1, k2⟩
      · have e0 : far h (stT (P p) b) = far h (P p) := by rw [b0, stT_0]
        refine S_X11_steps_85 (next w (Or.inr ⟨w1, by omega, hNr.mpr ⟨cF, ?_⟩, k'⟩))
        rw [eb, e0] at hf2
        omega
      · have k3 := k1.2
        rw [show b - 1 + 1 = b by omega] at k3
        rw [eb] at hf2
        rw [ew] at hf1
        omega
theorem c_steps {X : CX} {I R : PF} {p : Int} {D : PF} {h : Int × Int} {P : Int → Int × Int} (hs : Shp R) (hS : SqM D I) (hD : GD D) (hP : PosM (D 339 1) P I) (hI : PIn D P) (hp : 0 ≤ p ∧ p < D 339 1) (hh : inQ D h) (h1 : I 306 64 = h.1) (h2 : I 306 65 = h.2) :
    CN X 4 mX11_steps [(2, 306), (0, p)] I R (fun _ I' R' => PosM (D 339 1) (stp D h P p) I' ∧ FR mSp I I' ∧ R' = R) := by
  refine callee_b (by decide +kernel) (Nat.le_of_ble_eq_true rfl) rfl ?_
  have hd := hD.2.1
  obtain ⟨e1, e2⟩ := hP p hp.1 hp.2
  have hw := stw_r D P h p
  refine S_X11_steps_0 (steps_loop (P := P) (h := h) hs (Nat.le_refl _) hS hD hP hI hp hh h1 h2 ?_ _ 0 1 (Nat.lt_succ_self _) (by decide) (by decide) (Or.inl ⟨rfl, fun j j0 j1 => by omega⟩))
  refine S_X11_steps_93 (d1 := 0) hs (by omega) (by omega) (c_across hw) (fun z I1 R1 q => ?_)
  obtain ⟨(hz : z = _), rfl, rfl⟩ := q
  subst hz
  refine S_X11_steps_104 (d1 := 0) hs (by omega) (by omega) (by omega) (c_down hw) (fun z I2 R1 q => ?_)
  obtain ⟨(hz : z = _), rfl, rfl⟩ := q
  subst hz
  rw [u2_o (by decide)]
  refine S_X11_steps_117 (by omega) ⟨fun k k0 k1 => ?_, (FR_u2 (Or.inl rfl)).tr (FR_u2 (Or.inr rfl)), rfl⟩
  rw [e1, e2]
  obtain ⟨g1, g2⟩ := hP k k0 k1
  unfold stp updP
  by_cases c : k = p
  · rw [if_pos c, c, u2_o (by decide), u2_at, u2_at]; exact ⟨rfl, rfl⟩
  · rw [if_neg c, u2_o (by decide), u2_j c, u2_j c, u2_o (by decide)]; exact ⟨g1, g2⟩
