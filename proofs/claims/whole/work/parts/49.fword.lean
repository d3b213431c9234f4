/-! ===== words of formulas; nots and squares ===== -/
theorem Stk.mem {I : PF} {a v : Int} : ∀ {L : List Int} {k : Int}, Stk I a L k → (v ∈ L ↔ ∃ i, 0 ≤ i ∧ i < k ∧ I a i = v)
  | [], k, h => ⟨fun c => absurd c List.not_mem_nil, fun ⟨i, i0, i1, _⟩ => by have : k = 0 := h; omega⟩
  | w :: r, k, h => by
    have hl := Stk.len h.2
    have ih := Stk.mem (v := v) h.2
    constructor
    · intro c
      rcases List.mem_cons.mp c with e | c
      · exact ⟨k - 1, by omega, by omega, by rw [e]; exact h.1⟩
      · obtain ⟨i, i0, i1, i2⟩ := ih.mp c
        exact ⟨i, i0, by omega, i2⟩
    · rintro ⟨i, i0, i1, i2⟩
      by_cases e : i = k - 1
      · exact List.mem_cons.mpr (Or.inl (by rw [← i2, e]; exact h.1))
      · exact List.mem_cons_of_mem _ (ih.mpr ⟨i, i0, by omega, i2⟩)
theorem sq_loop {X : CX} {d : Nat} {I R : PF} {Q : PV → PF → PF → Prop} {U B C : List Int} (hs : Shp R) (h : KSt I U B C) (hy : 25 ∈ U ++ B → Q (0, 1) I R) (hn : 25 ∉ U ++ B → Q (0, 0) I R) : ∀ (k : Nat) (x : Int), (I 306 106 - x).toNat < k → 0 ≤ x → x ≤ I 306 106 → (∀ i, 0 ≤ i → i < x → I 380 i ≠ 25) → PN X d mX11_qHasSquare 2 [(2, 306), (0, x)] [] I R Q := by
  have hw := h.w
  have hl := h.le
  intro k
  induction k with
  | zero => intro x h; exact absurd h (Nat.not_lt_zero _)
  | succ k ih =>
    intro x g x0 x1 hall
    refine S_X11_qHasSquare_2 (by omega) (by omega) (fun g1 => ?_) (fun g1 => ?_)
    · refine S_X11_qHasSquare_29 (hn (fun c => ?_))
      obtain ⟨i, i0, i1, i2⟩ := (h.1.mem).mp c
      exact hall i i0 (by omega) i2
    · have hr : inR (I 380 x) := h.2.2.2.2 _ ((h.1.mem (v := I 380 x)).mpr ⟨x, x0, by omega, rfl⟩)
      refine S_X11_qHasSquare_10 hs (by omega) hr (fun g2 => ?_) (fun g2 => ?_)
      · refine S_X11_qHasSquare_23 (ih (x + 1) (by omega) (by omega) (by omega) (fun i i0 i1 => ?_))
        by_cases e : i < x
        · exact hall i i0 e
        · rw [show i = x by omega]; exact g2
      · exact S_X11_qHasSquare_21 (hy ((h.1.mem).mpr ⟨x, x0, by omega, g2⟩))
theorem c_qHasSquare {X : CX} {I R : PF} {U B C : List Int} (hs : Shp R) (h : KSt I U B C) : CN X 0 mX11_qHasSquare [(2, 306)] I R (fun v I' R' => v.2 = bi (25 ∈ U ++ B) ∧ I' = I ∧ R' = R) := by
  refine callee_b (by decide +kernel) (Nat.le_of_ble_eq_true rfl) rfl ?_
  have hw := h.w
  exact S_X11_qHasSquare_0 (sq_loop hs h (fun c => ⟨(bi_t c).symm, rfl, rfl⟩) (fun c => ⟨(bi_f c).symm, rfl, rfl⟩) _ 0 (Nat.lt_succ_self _) (Int.le_refl _) (by omega) (fun i i0 i1 => by omega))
def dnU : List Int → List Int
  | [] => []
  | v :: r => if v = 12 then dnU r else v :: r
def dnC : List Int → List Int → List Int
  | [], C => C
  | v :: r, C => if v = 12 then dnC r (v :: C) else C
def dnN : List Int → Int
  | [] => 0
  | v :: r => if v = 12 then dnN r + 1 else 0
theorem dn_loop {X : CX} {d : Nat} {R : PF} {Q : PV → PF → PF → Prop} (hs : Shp R) (hd : 3 ≤ d) : ∀ (U C : List Int) (I : PF), KSt I U [] C → I 306 5 = 0 → (∀ I', KSt I' (dnU U) [] (dnC U C) → I' 306 107 = I 306 107 - dnN U → FR mE I I' → Q (9, 0) I' R) → PN X d mX11_qDropsNots 0 [(2, 306)] [] I R Q := by
  intro U
  induction U with
  | nil =>
    intro C I h h5 hQ
    refine S_X11_qDropsNots_0 (by rw [h5]; decide) (fun g => absurd h5 g) (fun _ => ?_)
    refine S_X11_qDropsNots_7 (d1 := 0) (by omega) (c_qIsOn hs h (by decide)) (fun z I2 R2 q => ?_)
    obtain ⟨(hz : z = _), rfl, rfl⟩ := q
    have e : bi (onT 12 ([] ++ [])) = 0 := bi_f (fun c => c)
    refine S_X11_qDropsNots_13 (by omega) (fun g => ?_) (fun g => absurd (hz.trans e) g)
    exact S_X11_qDropsNots_33 (hQ I2 h (by show _ = _ - 0; omega) FR.rf)
  | cons v U ih =>
    intro C I h h5 hQ
    refine S_X11_qDropsNots_0 (by rw [h5]; decide) (fun g => absurd h5 g) (fun _ => ?_)
    refine S_X11_qDropsNots_7 (d1 := 0) (by omega) (c_qIsOn hs h (by decide)) (fun z I2 R2 q => ?_)
    obtain ⟨(hz : z = _), rfl, rfl⟩ := q
    have hb := bi_r (onT 12 (v :: U ++ []))
    refine S_X11_qDropsNots_13 (by omega) (fun g => ?_) (fun g => ?_)
    · have c : ¬ v = 12 := bi_0 (hz.symm.trans g)
      have e1 : dnU (v :: U) = v :: U := if_neg c
      have e2 : dnC (v :: U) C = C := if_neg c
      have e3 : dnN (v :: U) = 0 := if_neg c
      rw [e1, e2, e3] at hQ
      exact S_X11_qDropsNots_33 (hQ I2 h (by omega) FR.rf)
    · have c : v = 12 := bi_1 (fun c => g (hz.trans c))
      have e1 : dnU (v :: U) = dnU U := if_pos c
      have e2 : dnC (v :: U) C = dnC U (v :: C) := if_pos c
      have e3 : dnN (v :: U) = dnN U + 1 := if_pos c
      rw [e1, e2, e3] at hQ
      have k : KSt (u2 I2 306 107 (I2 306 107 - 1)) (v :: U) [] C := h.fr (FR_u2 (P := fun x y => x = 306 ∧ y = 107) ⟨rfl, rfl⟩) (fun x y c => by omega)
      refine S_X11_qDropsNots_16 (d1 := 2) (by omega) (c_qDrops hs k) (fun z3 I3 R3 q => ?_)
      obtain ⟨q1, q2, rfl⟩ := q
      have f3 : FR mE I2 I3 := (FR_u2 (Or.inl ⟨rfl, by decide⟩)).tr (q2.mono (fun x y c => by unfold mE; omega))
      refine S_X11_qDropsNots_30 (ih (v :: C) I3 q1 ?_ (fun I' k h7 f => hQ I' k ?_ (f3.tr f)))
      · rw [f3 306 5 (fun c => by unfold mE at c; omega)]; exact h5
      · rw [h7, q2 306 107 (fun c => by omega), u2_at]; omega
theorem c_qDropsNots {X : CX} {I R : PF} {U C : List Int} (hs : Shp R) (h : KSt I U [] C) (h5 : I 306 5 = 0) :
    CN X 3 mX11_qDropsNots [(2, 306)] I R (fun _ I' R' => KSt I' (dnU U) [] (dnC U C) ∧ I' 306 107 = I 306 107 - dnN U ∧ FR mE I I' ∧ R' = R) := by
  refine callee_b (by decide +kernel) (Nat.le_of_ble_eq_true rfl) rfl ?_
  exact dn_loop hs (by omega) U C I h h5 (fun I' k h7 f => ⟨k, h7, f, rfl⟩)
theorem c_qDropsNots_bad {X : CX} {I R : PF} (h5 : I 306 5 ≠ 0) (hr : inR (I 306 5)) : CN X 3 mX11_qDropsNots [(2, 306)] I R (fun _ I' R' => I' = I ∧ R' = R) := by
  refine callee_b (by decide +kernel) (Nat.le_of_ble_eq_true rfl) rfl ?_
  exact S_X11_qDropsNots_0 hr (fun g => S_X11_qDropsNots_33 ⟨rfl, rfl⟩) (fun g => absurd g h5)
def mY (x y : Int) : Prop := mRd x y ∨ mQ x y
theorem c_qOpens {X : CX} {I R : PF} {t : Int → Int} {n w a : Int} {q : Int × Bool} {U B C : List Int} (hs : Shp R) (hM : MSt t n (.inl q) I) (ha : I 306 2 = skp t n q.1) (hA : a = skp t n q.1) (h : KSt I U B C) (hw : inR w) (ho : inR (I 306 107)) (hl : (U.length + B.length + C.length : Int) < 1650) :
    CN X 2 mX11_qOpens [(2, 306), (0, w), (0, a)] I R (fun _ I' R' => R' = R ∧ FR mY I I' ∧ I' 306 2 = I 306 2 ∧ ((I 306 107 = 6 ∧ MSt t n (flt t n 4 (.inl q)) I' ∧ KSt I' U B C) ∨ (I 306 107 ≠ 6 ∧ MSt t n (.inl q) I' ∧ KSt I' (w :: U) B C ∧ I' 306 107 = I 306 107 + 1))) := by
  refine callee_b (by decide +kernel) (Nat.le_of_ble_eq_true rfl) rfl ?_
  have h5 : I 306 5 = 0 := hM.ok
  have hW := h.w
  have hL := h.le
  refine S_X11_qOpens_0 (by rw [h5]; decide) (fun _ => ?_) (fun g => absurd h5 g)
  refine S_X11_qOpens_8 ho (fun g => ?_) (fun g => ?_)
  · have f1 : FR (fun x y => x = 306 ∧ y = 107) I (u2 I 306 107 (I 306 107 + 1)) := FR_u2 ⟨rfl, rfl⟩
    have e1 : u2 I 306 107 (I 306 107 + 1) 306 106 = I 306 106 := u2_j (by decide)
    refine S_X11_qOpens_24 hs (by rw [e1]; omega) ?_
    rw [e1]
    have f2 : FR (fun x y => x = 380 ∧ y = I 306 106) (u2 I 306 107 (I 306 107 + 1)) (u2 (u2 I 306 107 (I 306 107 + 1)) 380 (I 306 106) w) := FR_u2 ⟨rfl, rfl⟩
    have e2 : u2 (u2 I 306 107 (I 306 107 + 1)) 380 (I 306 106) w 306 106 = I 306 106 := (f2 _ _ (fun c => by omega)).trans e1
    rw [e2]
    have f3 : FR (fun x y => x = 306 ∧ y = 106) (u2 (u2 I 306 107 (I 306 107 + 1)) 380 (I 306 106) w) (u2 (u2 (u2 I 306 107 (I 306 107 + 1)) 380 (I 306 106) w) 306 106 (I 306 106 + 1)) := FR_u2 ⟨rfl, rfl⟩
    have fq : FR mQ I (u2 (u2 (u2 I 306 107 (I 306 107 + 1)) 380 (I 306 106) w) 306 106 (I 306 106 + 1)) := (f1.mono (fun x y c => by unfold mQ; omega)).tr ((f2.mono (fun x y c => by unfold mQ; omega)).tr (f3.mono (fun x y c => by unfold mQ; omega)))
    refine ⟨rfl, fq.mono (fun x y c => Or.inr c), fq 306 2 (fun c => by unfold mQ at c; omega), Or.inr ⟨g, hM.q fq, ⟨?_, ?_, ?_, ?_, ?_⟩, ?_⟩⟩
    · rw [u2_at]
      exact ((h.1.row (u2_row (by decide) : u2 I 306 107 (I 306 107 + 1) 380 = I 380)).push).fr (fun i _ _ => f3 380 i (fun c => by omega))
    · rw [f3 306 104 (fun c => by omega), f2 306 104 (fun c => by omega), f1 306 104 (fun c => by omega)]
      exact h.2.1.fr (fun i _ _ => (f3 379 i (fun c => by omega)).trans ((f2 379 i (fun c => by omega)).trans (f1 379 i (fun c => by omega))))
    · rw [f3 306 108 (fun c => by omega), f2 306 108 (fun c => by omega), f1 306 108 (fun c => by omega)]; exact h.2.2.1
    · rw [List.cons_append, List.length_cons, List.length_append]; omega
    · intro v hv
      rcases List.mem_cons.mp hv with e | hv
      · rw [e]; exact hw
      · exact h.2.2.2.2 v hv
    · rw [f3 306 107 (fun c => by omega), f2 306 107 (fun c => by omega), u2_at]
  · refine S_X11_qOpens_17 (d1 := 1) (by omega) (c_fail hM.r5) (fun z3 I3 R3 q5 => ?_)
    obtain ⟨q6, rfl⟩ := q5
    rw [if_pos h5] at q6
    subst q6
    rw [hA, ← ha]
    have f : FR mRd I (u2 (u2 I 306 5 4) 306 6 (I 306 2)) := (FR_u2 ⟨rfl, by decide⟩).tr (FR_u2 ⟨rfl, by decide⟩)
    exact S_X11_qOpens_23 ⟨rfl, f.mono (fun x y c => Or.inl c), by rw [u2_j (by decide), u2_j (by decide)], Or.inl ⟨g, hM.fail ha (by decide) (by decide), h.rd f⟩⟩
/-- what a text of kind k may read -/
def al (tk k : Int) : Prop := if tk = 0 then k < 2 else if tk = 1 then k < 6 else k ≠ 1
theorem c_isAllowed {X : CX} {I R : PF} {k : Int} (ht : 0 ≤ I 306 56 ∧ I 306 56 ≤ 2) (hk : inR k) : CN X 0 mX11_isAllowed [(2, 306), (0, k)] I R (fun v I' R' => v.2 = bi (al (I 306 56) k) ∧ I' = I ∧ R' = R) := by
  refine callee_b (by decide +kernel) (Nat.le_of_ble_eq_true rfl) rfl ?_
  refine S_X11_isAllowed_0 (by omega) (fun g => ?_) (fun g => ?_)
  · refine S_X11_isAllowed_20 (by omega) (fun g1 => ?_) (fun g1 => ?_)
    · have e : al (I 306 56) k ↔ k ≠ 1 := by unfold al; rw [if_neg g, if_neg g1]
      rw [bi_congr e]
      refine S_X11_isAllowed_42 hk (fun g2 => ?_) (fun g2 => ?_)
      · exact S_X11_isAllowed_51 (S_X11_isAllowed_52 (by decide) ⟨(bi_f (fun c => c g2)).symm, rfl, rfl⟩)
      · exact S_X11_isAllowed_47 (S_X11_isAllowed_52 (by decide) ⟨(bi_t g2).symm, rfl, rfl⟩)
    · have e : al (I 306 56) k ↔ k < 6 := by unfold al; rw [if_neg g, if_pos g1]
      rw [bi_congr e]
      refine S_X11_isAllowed_28 hk (fun g2 => ?_) (fun g2 => ?_)
      · exact S_X11_isAllowed_38 (S_X11_isAllowed_52 (by decide) ⟨(bi_f (by omega)).symm, rfl, rfl⟩)
      · exact S_X11_isAllowed_34 (S_X11_isAllowed_52 (by decide) ⟨(bi_t g2).symm, rfl, rfl⟩)
  · have e : al (I 306 56) k ↔ k < 2 := by unfold al; rw [if_pos g]
    rw [bi_congr e]
    refine S_X11_isAllowed_7 hk (fun g2 => ?_) (fun g2 => ?_)
    · exact S_X11_isAllowed_16 (S_X11_isAllowed_52 (by decide) ⟨(bi_f (by omega)).symm, rfl, rfl⟩)
    · exact S_X11_isAllowed_12 (S_X11_isAllowed_52 (by decide) ⟨(bi_t g2).symm, rfl, rfl⟩)
/-- which word of a formula: the kind of part, or -1 -/
def wk (c : Int) : Int := if c = 209161764 then 0 else if c = 117630947 then 1 else if c = 287754525 then 2 else if c = 230176647 then 3 else if c = 338354415 then 4 else if c = 289999629 then 5 else if c = 212302449 then 6 else if c = 51270206 then 7 else if c = 266704650 then 8 else if c = 94421673 then 9 else if c = 103507065 then 10 else if c = 281319642 then 11 else -1
theorem c_qWordHere {X : CX} {I R : PF} {t : Int → Int} {n : Int} {s : SA} (hs : Shp R) (hM : MSt t n s I) (hc : CW I) :
    CN X 3 mX11_qWordHere [(2, 306)] I R (fun v I' R' => v.2 = wk (tw t n s) ∧ MSt t n s I' ∧ FR mRd I I' ∧ R' = R ∧ (∀ q, s = .inl q → I' 306 2 = skp t n q.1)) := by
  refine callee_b (by decide +kernel) (Nat.le_of_ble_eq_true rfl) rfl ?_
  refine S_X11_qWordHere_0 (d1 := 2) hs (by omega) (w_here (a := 367) (c := 209161764) (by decide) hs hM (hc.rd FR.rf)) (fun z0 J0 R0 q0 => ?_)
  obtain ⟨(y0 : z0 = _), h0m, f0, e0, h0a⟩ := q0
  subst e0
  have h0f : FR mRd I J0 := (FR.rf).tr f0
  have b0 := bi_r (tw t n s = 209161764)
  refine S_X11_qWordHere_8 (by omega) (fun g0 => ?_) (fun g0 => ?_)
  rotate_left
  · have c0 := bi_1 (fun c => g0 (y0.trans c))
    exact S_X11_qWordHere_11 ⟨by rw [c0]; decide, h0m, h0f, rfl, h0a⟩
  have n0 := bi_0 (y0.symm.trans g0)
  refine S_X11_qWordHere_13 (d1 := 2) hs (by omega) (w_here (a := 368) (c := 117630947) (by decide) hs h0m (hc.rd h0f)) (fun z1 J1 R1 q1 => ?_)
  obtain ⟨(y1 : z1 = _), h1m, f1, e1, h1a⟩ := q1
  subst e1
  have h1f : FR mRd I J1 := (h0f).tr f1
  have b1 := bi_r (tw t n s = 117630947)
  refine S_X11_qWordHere_21 (by omega) (fun g1 => ?_) (fun g1 => ?_)
  rotate_left
  · have c1 := bi_1 (fun c => g1 (y1.trans c))
    exact S_X11_qWordHere_24 ⟨by rw [c1]; decide, h1m, h1f, rfl, h1a⟩
  have n1 := bi_0 (y1.symm.trans g1)
  refine S_X11_qWordHere_26 (d1 := 2) hs (by omega) (w_here (a := 369) (c := 287754525) (by decide) hs h1m (hc.rd h1f)) (fun z2 J2 R2 q2 => ?_)
  obtain ⟨(y2 : z2 = _), h2m, f2, e2, h2a⟩ := q2
  subst e2
  have h2f : FR mRd I J2 := (h1f).tr f2
  have b2 := bi_r (tw t n s = 287754525)
  refine S_X11_qWordHere_34 (by omega) (fun g2 => ?_) (fun g2 => ?_)
  rotate_left
  · have c2 := bi_1 (fun c => g2 (y2.trans c))
    exact S_X11_qWordHere_37 ⟨by rw [c2]; decide, h2m, h2f, rfl, h2a⟩
  have n2 := bi_0 (y2.symm.trans g2)
  refine S_X11_qWordHere_39 (d1 := 2) hs (by omega) (w_here (a := 370) (c := 230176647) (by decide) hs h2m (hc.rd h2f)) (fun z3 J3 R3 q3 => ?_)
  obtain ⟨(y3 : z3 = _), h3m, f3, e3, h3a⟩ := q3
  subst e3
  have h3f : FR mRd I J3 := (h2f).tr f3
  have b3 := bi_r (tw t n s = 230176647)
  refine S_X11_qWordHere_47 (by omega) (fun g3 => ?_) (fun g3 => ?_)
  rotate_left
  · have c3 := bi_1 (fun c => g3 (y3.trans c))
    exact S_X11_qWordHere_50 ⟨by rw [c3]; decide, h3m, h3f, rfl, h3a⟩
  have n3 := bi_0 (y3.symm.trans g3)
  refine S_X11_qWordHere_52 (d1 := 2) hs (by omega) (w_here (a := 371) (c := 338354415) (by decide) hs h3m (hc.rd h3f)) (fun z4 J4 R4 q4 => ?_)
  obtain ⟨(y4 : z4 = _), h4m, f4, e4, h4a⟩ := q4
  subst e4
  have h4f : FR mRd I J4 := (h3f).tr f4
  have b4 := bi_r (tw t n s = 338354415)
  refine S_X11_qWordHere_60 (by omega) (fun g4 => ?_) (fun g4 => ?_)
  rotate_left
  · have c4 := bi_1 (fun c => g4 (y4.trans c))
    exact S_X11_qWordHere_63 ⟨by rw [c4]; decide, h4m, h4f, rfl, h4a⟩
  have n4 := bi_0 (y4.symm.trans g4)
  refine S_X11_qWordHere_65 (d1 := 2) hs (by omega) (w_here (a := 372) (c := 289999629) (by decide) hs h4m (hc.rd h4f)) (fun z5 J5 R5 q5 => ?_)
  obtain ⟨(y5 : z5 = _), h5m, f5, e5, h5a⟩ := q5
  subst e5
  have h5f : FR mRd I J5 := (h4f).tr f5
  have b5 := bi_r (tw t n s = 289999629)
  refine S_X11_qWordHere_73 (by omega) (fun g5 => ?_) (fun g5 => ?_)
  rotate_left
  · have c5 := bi_1 (fun c => g5 (y5.trans c))
    exact S_X11_qWordHere_76 ⟨by rw [c5]; decide, h5m, h5f, rfl, h5a⟩
  have n5 := bi_0 (y5.symm.trans g5)
  refine S_X11_qWordHere_78 (d1 := 2) hs (by omega) (w_here (a := 373) (c := 212302449) (by decide) hs h5m (hc.rd h5f)) (fun z6 J6 R6 q6 => ?_)
  obtain ⟨(y6 : z6 = _), h6m, f6, e6, h6a⟩ := q6
  subst e6
  have h6f : FR mRd I J6 := (h5f).tr f6
  have b6 := bi_r (tw t n s = 212302449)
  refine S_X11_qWordHere_86 (by omega) (fun g6 => ?_) (fun g6 => ?_)
  rotate_left
  · have c6 := bi_1 (fun c => g6 (y6.trans c))
    exact S_X11_qWordHere_89 ⟨by rw [c6]; decide, h6m, h6f, rfl, h6a⟩
  have n6 := bi_0 (y6.symm.trans g6)
  refine S_X11_qWordHere_92 (d1 := 2) hs (by omega) (w_here (a := 374) (c := 51270206) (by decide) hs h6m (hc.rd h6f)) (fun z7 J7 R7 q7 => ?_)
  obtain ⟨(y7 : z7 = _), h7m, f7, e7, h7a⟩ := q7
  subst e7
  have h7f : FR mRd I J7 := (h6f).tr f7
  have b7 := bi_r (tw t n s = 51270206)
  refine S_X11_qWordHere_100 (by omega) (fun g7 => ?_) (fun g7 => ?_)
  rotate_left
  · have c7 := bi_1 (fun c => g7 (y7.trans c))
    exact S_X11_qWordHere_103 ⟨by rw [c7]; decide, h7m, h7f, rfl, h7a⟩
  have n7 := bi_0 (y7.symm.trans g7)
  refine S_X11_qWordHere_106 (d1 := 2) hs (by omega) (w_here (a := 375) (c := 266704650) (by decide) hs h7m (hc.rd h7f)) (fun z8 J8 R8 q8 => ?_)
  obtain ⟨(y8 : z8 = _), h8m, f8, e8, h8a⟩ := q8
  subst e8
  have h8f : FR mRd I J8 := (h7f).tr f8
  have b8 := bi_r (tw t n s = 266704650)
  refine S_X11_qWordHere_114 (by omega) (fun g8 => ?_) (fun g8 => ?_)
  rotate_left
  · have c8 := bi_1 (fun c => g8 (y8.trans c))
    exact S_X11_qWordHere_117 ⟨by rw [c8]; decide, h8m, h8f, rfl, h8a⟩
  have n8 := bi_0 (y8.symm.trans g8)
  refine S_X11_qWordHere_120 (d1 := 2) hs (by omega) (w_here (a := 376) (c := 94421673) (by decide) hs h8m (hc.rd h8f)) (fun z9 J9 R9 q9 => ?_)
  obtain ⟨(y9 : z9 = _), h9m, f9, e9, h9a⟩ := q9
  subst e9
  have h9f : FR mRd I J9 := (h8f).tr f9
  have b9 := bi_r (tw t n s = 94421673)
  refine S_X11_qWordHere_128 (by omega) (fun g9 => ?_) (fun g9 => ?_)
  rotate_left
  · have c9 := bi_1 (fun c => g9 (y9.trans c))
    exact S_X11_qWordHere_131 ⟨by rw [c9]; decide, h9m, h9f, rfl, h9a⟩
  have n9 := bi_0 (y9.symm.trans g9)
  refine S_X11_qWordHere_134 (d1 := 2) hs (by omega) (w_here (a := 377) (c := 103507065) (by decide) hs h9m (hc.rd h9f)) (fun z10 J10 R10 q10 => ?_)
  obtain ⟨(y10 : z10 = _), h10m, f10, e10, h10a⟩ := q10
  subst e10
  have h10f : FR mRd I J10 := (h9f).tr f10
  have b10 := bi_r (tw t n s = 103507065)
  refine S_X11_qWordHere_142 (by omega) (fun g10 => ?_) (fun g10 => ?_)
  rotate_left
  · have c10 := bi_1 (fun c => g10 (y10.trans c))
    exact S_X11_qWordHere_145 ⟨by rw [c10]; decide, h10m, h10f, rfl, h10a⟩
  have n10 := bi_0 (y10.symm.trans g10)
  refine S_X11_qWordHere_148 (d1 := 2) hs (by omega) (w_here (a := 378) (c := 281319642) (by decide) hs h10m (hc.rd h10f)) (fun z11 J11 R11 q11 => ?_)
  obtain ⟨(y11 : z11 = _), h11m, f11, e11, h11a⟩ := q11
  subst e11
  have h11f : FR mRd I J11 := (h10f).tr f11
  have b11 := bi_r (tw t n s = 281319642)
  refine S_X11_qWordHere_156 (by omega) (fun g11 => ?_) (fun g11 => ?_)
  rotate_left
  · have c11 := bi_1 (fun c => g11 (y11.trans c))
    exact S_X11_qWordHere_159 ⟨by rw [c11]; decide, h11m, h11f, rfl, h11a⟩
  have n11 := bi_0 (y11.symm.trans g11)
  refine S_X11_qWordHere_162 ⟨?_, h11m, h11f, rfl, h11a⟩
  unfold wk
  rw [if_neg n0, if_neg n1, if_neg n2, if_neg n3, if_neg n4, if_neg n5, if_neg n6, if_neg n7, if_neg n8, if_neg n9, if_neg n10, if_neg n11]
noncomputable def wOf (tk a b c : Int) : Int := @ite _ (a ≤ wk c ∧ wk c < b ∧ al tk (wk c)) (Classical.propDecidable _) (wk c) (-1)
theorem wk_r (c : Int) : -1 ≤ wk c ∧ wk c ≤ 11 := by
  unfold wk
  repeat' split
  all_goals omega
theorem c_qWordOf {X : CX} {I R : PF} {t : Int → Int} {n a b : Int} {s : SA} (hs : Shp R) (hM : MSt t n s I) (hc : CW I) (ht : 0 ≤ I 306 56 ∧ I 306 56 ≤ 2) (ha : inR a) (hb : inR b) :
    CN X 4 mX11_qWordOf [(2, 306), (0, a), (0, b)] I R (fun v I' R' => v.2 = wOf (I 306 56) a b (tw t n s) ∧ MSt t n s I' ∧ FR mRd I I' ∧ R' = R ∧ (∀ q, s = .inl q → I' 306 2 = skp t n q.1)) := by
  refine callee_b (by decide +kernel) (Nat.le_of_ble_eq_true rfl) rfl ?_
  refine S_X11_qWordOf_0 (d1 := 3) (by omega) (c_qWordHere hs hM hc) (fun z I2 R2 q => ?_)
  obtain ⟨(hz : z = _), q1, q2, rfl, q3⟩ := q
  have hr := wk_r (tw t n s)
  have e56 : I2 306 56 = I 306 56 := q2 306 56 (fun c => by unfold mRd at c; omega)
  have neg : ¬ (a ≤ wk (tw t n s) ∧ wk (tw t n s) < b ∧ al (I 306 56) (wk (tw t n s))) → wOf (I 306 56) a b (tw t n s) = -1 := fun h => @if_neg _ (Classical.propDecidable _) h _ _ _
  have pos : (a ≤ wk (tw t n s) ∧ wk (tw t n s) < b ∧ al (I 306 56) (wk (tw t n s))) → wOf (I 306 56) a b (tw t n s) = wk (tw t n s) := fun h => @if_pos _ (Classical.propDecidable _) h _ _ _
  refine S_X11_qWordOf_4 (by omega) ha (fun g => ?_) (fun g => ?_)
  · exact S_X11_qWordOf_27 (S_X11_qWordOf_28 ⟨(neg (fun c => by omega)).symm, q1, q2, rfl, q3⟩)
  refine S_X11_qWordOf_10 (by omega) hb (fun g1 => ?_) (fun g1 => ?_)
  · exact S_X11_qWordOf_27 (S_X11_qWordOf_28 ⟨(neg (fun c => by omega)).symm, q1, q2, rfl, q3⟩)
  refine S_X11_qWordOf_15 (d1 := 0) (by omega) (c_isAllowed (by omega) (by omega)) (fun z3 I3 R3 q => ?_)
  obtain ⟨(hz3 : z3 = _), rfl, rfl⟩ := q
  have hb2 := bi_r (al (I3 306 56) z)
  refine S_X11_qWordOf_20 (by omega) (fun g2 => ?_) (fun g2 => ?_)
  · have c := bi_0 (hz3.symm.trans g2)
    exact S_X11_qWordOf_27 (S_X11_qWordOf_28 ⟨(neg (fun k => c (by rw [e56, hz]; exact k.2.2))).symm, q1, q2, rfl, q3⟩)
  · have c := bi_1 (fun c => g2 (hz3.trans c))
    rw [e56, hz] at c
    exact S_X11_qWordOf_23 (S_X11_qWordOf_28 ⟨by rw [pos ⟨by omega, by omega, c⟩]; exact hz, q1, q2, rfl, q3⟩)
theorem wk_c {c : Int} {k : Int} (h : wk c = k) (h0 : 0 ≤ k) : (k, c) ∈ ([(0, 209161764), (1, 117630947), (2, 287754525), (3, 230176647), (4, 338354415), (5, 289999629), (6, 212302449), (7, 51270206), (8, 266704650), (9, 94421673), (10, 103507065), (11, 281319642)] : List (Int × Int)) := by
  subst h
  unfold wk at h0 ⊢
  repeat' split at h0
  all_goals first | omega | (subst_vars; decide) | skip
theorem c_qAsksWord {X : CX} {I R : PF} {t : Int → Int} {n k : Int} {s : SA} (hs : Shp R) (hM : MSt t n s I) (hc : CW I) (hk : wk (tw t n s) = k) (h0 : 0 ≤ k) :
    CN X 5 mX11_qAsksWord [(2, 306), (0, k)] I R (fun _ I' R' => MSt t n (goT t n s) I' ∧ FR mRd I I' ∧ R' = R) := by
  refine callee_b (by decide +kernel) (Nat.le_of_ble_eq_true rfl) rfl ?_
  have hr := wk_r (tw t n s)
  have hm := wk_c hk h0
  have key : ∀ c, c ≠ 0 → tw t n s = c → askC t n c s = goT t n s := fun c _ h => if_pos h
  refine S_X11_qAsksWord_0 (by omega) (fun g => ?_) (fun g => ?_) (fun g => ?_) (fun g => ?_) (fun g => ?_) (fun g => ?_) (fun g => ?_) (fun g => ?_) (fun g => ?_) (fun g => ?_) (fun g => ?_) (fun g => ?_)
  · have hk2 : k = 0 := by omega
    subst hk2
    have et : tw t n s = 209161764 := by simpa using hm
    refine S_X11_qAsksWord_60 (d1 := 4) hs (by omega) (w_asks (a := 367) (c := 209161764) (by decide) hs hM hc) (fun z I2 R2 q => ?_)
    obtain ⟨q1, q2, rfl⟩ := q
    rw [key _ (by decide) et] at q1
    exact S_X11_qAsksWord_68 (S_X11_qAsksWord_189 ⟨q1, q2, rfl⟩)
  · have hk2 : k = 1 := by omega
    subst hk2
    have et : tw t n s = 117630947 := by simpa using hm
    refine S_X11_qAsksWord_71 (d1 := 4) hs (by omega) (w_asks (a := 368) (c := 117630947) (by decide) hs hM hc) (fun z I2 R2 q => ?_)
    obtain ⟨q1, q2, rfl⟩ := q
    rw [key _ (by decide) et] at q1
    exact S_X11_qAsksWord_79 (S_X11_qAsksWord_189 ⟨q1, q2, rfl⟩)
  · have hk2 : k = 2 := by omega
    subst hk2
    have et : tw t n s = 287754525 := by simpa using hm
    refine S_X11_qAsksWord_82 (d1 := 4) hs (by omega) (w_asks (a := 369) (c := 287754525) (by decide) hs hM hc) (fun z I2 R2 q => ?_)
    obtain ⟨q1, q2, rfl⟩ := q
    rw [key _ (by decide) et] at q1
    exact S_X11_qAsksWord_90 (S_X11_qAsksWord_189 ⟨q1, q2, rfl⟩)
  · have hk2 : k = 3 := by omega
    subst hk2
    have et : tw t n s = 230176647 := by simpa using hm
    refine S_X11_qAsksWord_93 (d1 := 4) hs (by omega) (w_asks (a := 370) (c := 230176647) (by decide) hs hM hc) (fun z I2 R2 q => ?_)
    obtain ⟨q1, q2, rfl⟩ := q
    rw [key _ (by decide) et] at q1
    exact S_X11_qAsksWord_101 (S_X11_qAsksWord_189 ⟨q1, q2, rfl⟩)
  · have hk2 : k = 4 := by omega
    subst hk2
    have et : tw t n s = 338354415 := by simpa using hm
    refine S_X11_qAsksWord_104 (d1 := 4) hs (by omega) (w_asks (a := 371) (c := 338354415) (by decide) hs hM hc) (fun z I2 R2 q => ?_)
    obtain ⟨q1, q2, rfl⟩ := q
    rw [key _ (by decide) et] at q1
    exact S_X11_qAsksWord_112 (S_X11_qAsksWord_189 ⟨q1, q2, rfl⟩)
  · have hk2 : k = 5 := by omega
    subst hk2
    have et : tw t n s = 289999629 := by simpa using hm
    refine S_X11_qAsksWord_115 (d1 := 4) hs (by omega) (w_asks (a := 372) (c := 289999629) (by decide) hs hM hc) (fun z I2 R2 q => ?_)
    obtain ⟨q1, q2, rfl⟩ := q
    rw [key _ (by decide) et] at q1
    exact S_X11_qAsksWord_123 (S_X11_qAsksWord_189 ⟨q1, q2, rfl⟩)
  · have hk2 : k = 6 := by omega
    subst hk2
    have et : tw t n s = 212302449 := by simpa using hm
    refine S_X11_qAsksWord_126 (d1 := 4) hs (by omega) (w_asks (a := 373) (c := 212302449) (by decide) hs hM hc) (fun z I2 R2 q => ?_)
    obtain ⟨q1, q2, rfl⟩ := q
    rw [key _ (by decide) et] at q1
    exact S_X11_qAsksWord_134 (S_X11_qAsksWord_189 ⟨q1, q2, rfl⟩)
  · have hk2 : k = 7 := by omega
    subst hk2
    have et : tw t n s = 51270206 := by simpa using hm
    refine S_X11_qAsksWord_137 (d1 := 4) hs (by omega) (w_asks (a := 374) (c := 51270206) (by decide) hs hM hc) (fun z I2 R2 q => ?_)
    obtain ⟨q1, q2, rfl⟩ := q
    rw [key _ (by decide) et] at q1
    exact S_X11_qAsksWord_145 (S_X11_qAsksWord_189 ⟨q1, q2, rfl⟩)
  · have hk2 : k = 8 := by omega
    subst hk2
    have et : tw t n s = 266704650 := by simpa using hm
    refine S_X11_qAsksWord_148 (d1 := 4) hs (by omega) (w_asks (a := 375) (c := 266704650) (by decide) hs hM hc) (fun z I2 R2 q => ?_)
    obtain ⟨q1, q2, rfl⟩ := q
    rw [key _ (by decide) et] at q1
    exact S_X11_qAsksWord_156 (S_X11_qAsksWord_189 ⟨q1, q2, rfl⟩)
  · have hk2 : k = 9 := by omega
    subst hk2
    have et : tw t n s = 94421673 := by simpa using hm
    refine S_X11_qAsksWord_159 (d1 := 4) hs (by omega) (w_asks (a := 376) (c := 94421673) (by decide) hs hM hc) (fun z I2 R2 q => ?_)
    obtain ⟨q1, q2, rfl⟩ := q
    rw [key _ (by decide) et] at q1
    exact S_X11_qAsksWord_167 (S_X11_qAsksWord_189 ⟨q1, q2, rfl⟩)
  · have hk2 : k = 10 := by omega
    subst hk2
    have et : tw t n s = 103507065 := by simpa using hm
    refine S_X11_qAsksWord_170 (d1 := 4) hs (by omega) (w_asks (a := 377) (c := 103507065) (by decide) hs hM hc) (fun z I2 R2 q => ?_)
    obtain ⟨q1, q2, rfl⟩ := q
    rw [key _ (by decide) et] at q1
    exact S_X11_qAsksWord_178 (S_X11_qAsksWord_189 ⟨q1, q2, rfl⟩)
  · have hk2 : k = 11 := by omega
    subst hk2
    have et : tw t n s = 281319642 := by simpa using hm
    refine S_X11_qAsksWord_181 (d1 := 4) hs (by omega) (w_asks (a := 378) (c := 281319642) (by decide) hs hM hc) (fun z I2 R2 q => ?_)
    obtain ⟨q1, q2, rfl⟩ := q
    rw [key _ (by decide) et] at q1
    exact S_X11_qAsksWord_189 ⟨q1, q2, rfl⟩
