/-! ===== stand ===== -/
def ptK (K : PF) (q x y : Int) : PF := u2 (u2 K 348 (3 + 5 * q) x) 348 (3 + 5 * q + 1) y
noncomputable def canS (D K : PF) (q x y : Int) : Prop := inQ D (x, y) ∧ ¬ wlT D x y ∧ (whoK K (D 339 1) x y = -1 ∨ whoK K (D 339 1) x y = q)
noncomputable def gtN (D K : PF) (q x y : Int) : Int := cnt (fun t => whT D (ptK K q x y) (K 348 0) t = q) 33
theorem ptK_2 (K : PF) (q x y : Int) : ptK K q x y 342 = K 342 := by unfold ptK; rw [u2_row (by decide), u2_row (by decide)]
theorem ptK_o {K : PF} {q x y j : Int} (h : j ≠ 3 + 5 * q) (h2 : j ≠ 3 + 5 * q + 1) : ptK K q x y 348 j = K 348 j := by unfold ptK; rw [u2_j h2, u2_j h]
theorem ptK_x (K : PF) (q x y : Int) : ptK K q x y 348 (3 + 5 * q) = x := by unfold ptK; rw [u2_j (by omega), u2_at]
theorem ptK_y (K : PF) (q x y : Int) : ptK K q x y 348 (3 + 5 * q + 1) = y := by unfold ptK; rw [u2_at]
theorem ptK_P (K : PF) (q x y p : Int) : P0 (ptK K q x y) p = if p = q then (x, y) else P0 K p := by
  unfold P0
  by_cases c : p = q
  · rw [if_pos c, c, ptK_x, ptK_y]
  · rw [if_neg c, ptK_o (by omega) (by omega), ptK_o (by omega) (by omega)]
theorem whoK_no {K : PF} {n q x y p : Int} (h : whoK K n x y = -1 ∨ whoK K n x y = q) (hd : ∀ k j, 0 ≤ k → k < n → 0 ≤ j → j < n → k ≠ j → ¬ ((P0 K k).1 = (P0 K j).1 ∧ (P0 K k).2 = (P0 K j).2)) (p0 : 0 ≤ p) (p1 : p < n) (hpq : p ≠ q) : ¬ ((P0 K p).1 = x ∧ (P0 K p).2 = y) := fun c => by
  unfold whoK at h
  rcases fI_fst (fun p => K 348 (3 + 5 * p) = x ∧ K 348 (3 + 5 * p + 1) = y) n with ⟨a1, a2⟩ | ⟨a1, a2, a3, a4⟩
  · exact a2 p p0 p1 c
  · rcases h with h | h
    · omega
    · rw [h] at a1 a2 a3
      exact hd p q p0 p1 a1 a2 hpq ⟨c.1.trans a3.1.symm, c.2.trans a3.2.symm⟩
theorem KG.pt {D K : PF} {q x y : Int} (h : KG D K) (hG : GD D) (hq : 0 ≤ q ∧ q < D 339 1) (hc : canS D K q x y) : KG D (ptK K q x y) := by
  obtain ⟨h1, h2, h3, h4, h5, h6⟩ := h
  obtain ⟨c1, c2, c3⟩ := hc
  have hD := hG.2.1
  refine ⟨by rw [ptK_o (by omega) (by omega)]; exact h1, by rw [ptK_o (by omega) (by omega)]; exact h2, by rw [ptK_o (by omega) (by omega)]; exact h3, fun p p0 p1 => ?_, ⟨fun k j k0 k1 j0 j1 kj => ?_, fun k k0 k1 => ?_⟩, fun p p0 p1 => ?_⟩
  · rw [ptK_P]
    by_cases c : p = q
    · rw [if_pos c]; exact c1
    · rw [if_neg c]; exact h4 p p0 p1
  · rw [ptK_P, ptK_P]
    by_cases ck : k = q
    · rw [if_pos ck, if_neg (fun c => kj (ck.trans c.symm))]
      exact fun c => whoK_no c3 h5.1 j0 j1 (fun c => kj (ck.trans c.symm)) ⟨c.1.symm, c.2.symm⟩
    · rw [if_neg ck]
      by_cases cj : j = q
      · rw [if_pos cj]; exact whoK_no c3 h5.1 k0 k1 ck
      · rw [if_neg cj]; exact h5.1 k j k0 k1 j0 j1 kj
  · rw [ptK_P]
    by_cases c : k = q
    · rw [if_pos c]; exact c2
    · rw [if_neg c]; exact h5.2 k k0 k1
  · rw [ptK_2, ptK_o (by omega) (by omega), ptK_o (by omega) (by omega), ptK_o (by omega) (by omega)]; exact h6 p p0 p1
theorem mayV_pt {D K : PF} {q x y noon h p : Int} (hp : 0 ≤ p) (hq : 0 ≤ q) : mayV D (ptK K q x y) noon h p = mayV D K noon h p := by
  have e : eP (ptK K q x y) noon h p = eP K noon h p := by
    funext k
    unfold eP
    by_cases c : 2 ≤ k ∧ k ≤ 5
    · have : mpt (ptK K q x y) p k = mpt K p k := by
        rcases (show k = 2 ∨ k = 3 ∨ k = 4 ∨ k = 5 by omega) with rfl | rfl | rfl | rfl
        · show ptK K q x y 342 _ = K 342 _; rw [ptK_2]
        · show ptK K q x y 342 _ = K 342 _; rw [ptK_2]
        · show ptK K q x y 348 (3 + 5 * p + 4) = K 348 (3 + 5 * p + 4); rw [ptK_o (by omega) (by omega)]
        · show (if ptK K q x y 348 1 = p then ptK K q x y 348 2 else 0) = (if K 348 1 = p then K 348 2 else 0); rw [ptK_o (by omega) (by omega), ptK_o (by omega) (by omega)]
      rw [this]
    · rw [if_neg c, if_neg c]
  unfold mayV
  rw [e]
theorem StC.pt {D K : PF} {s q x' y' x y : Int} {I I' : PF} (hss : s = 111 ∨ s = 119) (hD : 0 ≤ D 339 1 ∧ D 339 1 ≤ 6) (h : StC D (ptK K q x' y') s I) (hq : 0 ≤ q ∧ q < D 339 1) (h0 : I' (s + 2 + q) 0 = x) (h1 : I' (s + 2 + q) 1 = y) (f : FR (fun a b => a = s + 2 + q ∧ (b = 0 ∨ b = 1)) I I') : StC D (ptK K q x y) s I' := by
  obtain ⟨⟨s0, s1, s2, s3⟩, sp⟩ := h
  rw [ptK_o (by omega) (by omega)] at s0 s1 s2
  refine ⟨⟨?_, ?_, ?_, ?_⟩, fun p p0 p1 => ?_⟩
  · rw [f _ _ (fun c => by omega), ptK_o (by omega) (by omega)]; exact s0
  · rw [f _ _ (fun c => by omega), ptK_o (by omega) (by omega)]; exact s1
  · rw [f _ _ (fun c => by omega), ptK_o (by omega) (by omega)]; exact s2
  · rw [f _ _ (fun c => by omega)]; exact s3
  · obtain ⟨a0, a1, a2, a3, a4, a5, a6, a7⟩ := sp p p0 p1
    have o : ∀ x y j, 2 ≤ j → j ≤ 4 → ptK K q x y 348 (3 + 5 * p + j) = K 348 (3 + 5 * p + j) := fun x y j j0 j1 => ptK_o (by omega) (by omega)
    rw [ptK_2] at a2 a3 a4
    rw [o _ _ 2 (by decide) (by decide)] at a5
    rw [o _ _ 3 (by decide) (by decide)] at a6
    rw [o _ _ 4 (by decide) (by decide)] at a7
    rw [ptK_2, o _ _ 2 (by decide) (by decide), o _ _ 3 (by decide) (by decide), o _ _ 4 (by decide) (by decide), f _ 2 (fun c => by omega), f _ 3 (fun c => by omega), f _ 4 (fun c => by omega), f _ 5 (fun c => by omega), f _ 6 (fun c => by omega), f _ 7 (fun c => by omega)]
    refine ⟨?_, ?_, a2, a3, a4, a5, a6, a7⟩
    · by_cases c : p = q
      · rw [c, ptK_x]; exact h0
      · rw [f _ _ (fun k => by omega), ptK_o (by omega) (by omega), a0, ptK_o (by omega) (by omega)]
    · by_cases c : p = q
      · rw [c, ptK_y]; exact h1
      · rw [f _ _ (fun k => by omega), ptK_o (by omega) (by omega), a1, ptK_o (by omega) (by omega)]
theorem ClF.pt {D K : PF} {noon o q x' y' x y : Int} {J J' : PF} (hk : kd MF o = 6) (hG : GD D) (hq : 0 ≤ q ∧ q < D 339 1) (h : ClF D (ptK K q x' y') noon o 119 J) (h0 : J' (119 + 2 + q) 0 = x) (h1 : J' (119 + 2 + q) 1 = y) (f : FR (fun a b => (a = 119 + 2 + q ∧ (b = 0 ∨ b = 1)) ∨ a = 134) J J') : ClF D (ptK K q x y) noon o 119 J' := by
  obtain ⟨g1, g2, g3, g4, g5, g6⟩ := h
  have ho := sq_o hk
  have hD := hG.2.1
  -- the state's cells alone
  have hS : StC D (ptK K q x y) 119 J' := by
    have m : StC D (ptK K q x y) 119 (fun a b => if a = 134 then J a b else J' a b) := StC.pt (Or.inr rfl) ⟨by omega, by omega⟩ g3 hq (by show (if _ then _ else _) = _; rw [if_neg (by omega)]; exact h0) (by show (if _ then _ else _) = _; rw [if_neg (by omega)]; exact h1) (fun a b c => by
      show (if _ then _ else _) = _
      by_cases e : a = 134
      · rw [if_pos e]
      · rw [if_neg e]; exact f a b (fun k => by rcases k with k | k; exact c k; exact e k))
    exact m.fr ⟨by omega, by omega⟩ (fun a b c => by
      show _ = (if _ then _ else _)
      rw [if_neg (fun e => by unfold stC at c; omega)])
  refine ⟨g1.fr (fun a a0 a1 => funext fun b => f a b (fun c => by omega)) hG, fun k k0 k1 => ?_, hS, ?_, fun k k0 k1 => ?_, fun p k p0 p1 k0 k1 => ?_⟩
  · rw [f _ _ (fun c => by omega)]; exact g2 k k0 k1
  · rw [f _ _ (fun c => by omega), f _ _ (fun c => by omega)]; exact g4
  · rw [f _ _ (fun c => by omega)]; exact g5 k k0 k1
  · rw [f _ _ (fun c => by omega), mayV_pt p0 hq.1]
    have := g6 p k p0 p1 k0 k1
    rw [mayV_pt p0 hq.1] at this
    exact this
/-! the best place among those looked at -/
def Lex (D : PF) (X Y x y : Int) : Prop := inQ D (x, y) ∧ (y < Y ∨ y = Y ∧ x < X)
def Bst (D K : PF) (q X Y m bx bz : Int) : Prop := (m = -1 ∧ ∀ x y, Lex D X Y x y → ¬ canS D K q x y) ∨ (0 ≤ m ∧ m ≤ 33 ∧ canS D K q bx bz ∧ Lex D X Y bx bz ∧ m = gtN D K q bx bz ∧ ∀ x y, Lex D X Y x y → canS D K q x y → gtN D K q x y < m ∨ gtN D K q x y = m ∧ (bz < y ∨ bz = y ∧ bx ≤ x))
theorem Lex.nx {D : PF} {X Y x y : Int} (h : Lex D (X + 1) Y x y) : Lex D X Y x y ∨ x = X ∧ y = Y := by
  obtain ⟨h1, h2⟩ := h
  by_cases c : x = X ∧ y = Y
  · exact Or.inr c
  · exact Or.inl ⟨h1, by omega⟩
theorem Lex.up {D : PF} {X Y x y : Int} (h : Lex D X Y x y) : Lex D (X + 1) Y x y := ⟨h.1, by have := h.2; omega⟩
theorem gtN_r (D K : PF) (q x y : Int) : 0 ≤ gtN D K q x y ∧ gtN D K q x y ≤ 33 := cnt_r _ 33
theorem Bst.no {D K : PF} {q X Y m bx bz : Int} (h : Bst D K q X Y m bx bz) (hc : canS D K q X Y → gtN D K q X Y ≤ m) : Bst D K q (X + 1) Y m bx bz := by
  rcases h with ⟨h1, h2⟩ | ⟨h1, h2, h3, h4, h5, h6⟩
  · refine Or.inl ⟨h1, fun x y hl hcs => ?_⟩
    rcases hl.nx with c | ⟨rfl, rfl⟩
    · exact h2 x y c hcs
    · have := hc hcs
      have := gtN_r D K q x y
      omega
  · refine Or.inr ⟨h1, h2, h3, h4.up, h5, fun x y hl hcs => ?_⟩
    rcases hl.nx with c | ⟨rfl, rfl⟩
    · exact h6 x y c hcs
    · have := hc hcs
      have := h4.2
      by_cases e : gtN D K q x y = m
      · exact Or.inr ⟨e, by omega⟩
      · exact Or.inl (by omega)
theorem Bst.gt {D K : PF} {q X Y m bx bz : Int} (h : Bst D K q X Y m bx bz) (hc : canS D K q X Y) (g : m < gtN D K q X Y) : Bst D K q (X + 1) Y (gtN D K q X Y) X Y := by
  have gr := gtN_r D K q X Y
  refine Or.inr ⟨gr.1, gr.2, hc, ⟨hc.1, by omega⟩, rfl, fun x y hl hcs => ?_⟩
  rcases hl.nx with c | ⟨rfl, rfl⟩
  · rcases h with ⟨h1, h2⟩ | ⟨h1, h2, h3, h4, h5, h6⟩
    · exact absurd hcs (h2 x y c)
    · rcases h6 x y c hcs with k | k
      · exact Or.inl (by omega)
      · exact Or.inl (by omega)
  · exact Or.inr ⟨rfl, by omega⟩
theorem Bst.row {D K : PF} {q X Y m bx bz : Int} (h : Bst D K q X Y m bx bz) (hX : D 341 0 ≤ X) : Bst D K q 0 (Y + 1) m bx bz := by
  have e : ∀ x y, Lex D 0 (Y + 1) x y ↔ Lex D X Y x y := fun x y => ⟨fun k => ⟨k.1, by
    have h1 := k.1
    have h2 := k.2
    unfold inQ at h1; simp only at h1; omega⟩, fun k => ⟨k.1, by
    have h1 := k.1
    have h2 := k.2
    unfold inQ at h1; simp only at h1; omega⟩⟩
  rcases h with ⟨h1, h2⟩ | ⟨h1, h2, h3, h4, h5, h6⟩
  · exact Or.inl ⟨h1, fun x y hl => h2 x y ((e x y).mp hl)⟩
  · exact Or.inr ⟨h1, h2, h3, (e _ _).mpr h4, h5, fun x y hl => h6 x y ((e x y).mp hl)⟩
theorem Bst.all {D K : PF} {q Y Y' m bx bz : Int} (h : Bst D K q 0 Y m bx bz) (hY : D 341 1 ≤ Y) (hY' : D 341 1 ≤ Y') : Bst D K q 0 Y' m bx bz := by
  have e : ∀ x y, Lex D 0 Y' x y ↔ Lex D 0 Y x y := fun x y => ⟨fun k => ⟨k.1, by
    have h1 := k.1
    unfold inQ at h1; simp only at h1; omega⟩, fun k => ⟨k.1, by
    have h1 := k.1
    unfold inQ at h1; simp only at h1; omega⟩⟩
  rcases h with ⟨h1, h2⟩ | ⟨h1, h2, h3, h4, h5, h6⟩
  · exact Or.inl ⟨h1, fun x y hl => h2 x y ((e x y).mp hl)⟩
  · exact Or.inr ⟨h1, h2, h3, (e _ _).mpr h4, h5, fun x y hl => h6 x y ((e x y).mp hl)⟩
theorem canS_own {D K : PF} {q : Int} (hK : KG D K) (hq : 0 ≤ q ∧ q < D 339 1) : canS D K q (K 348 (3 + 5 * q)) (K 348 (3 + 5 * q + 1)) := by
  obtain ⟨-, -, -, h4, h5, -⟩ := hK
  refine ⟨h4 q hq.1 hq.2, h5.2 q hq.1 hq.2, ?_⟩
  unfold whoK
  rcases fI_fst (fun p => K 348 (3 + 5 * p) = K 348 (3 + 5 * q) ∧ K 348 (3 + 5 * p + 1) = K 348 (3 + 5 * q + 1)) (D 339 1) with ⟨a1, a2⟩ | ⟨a1, a2, a3, a4⟩
  · exact Or.inl a1
  · right
    refine Decidable.byContradiction (fun c => ?_)
    exact h5.1 _ q a1 a2 hq.1 hq.2 c a3
theorem Bst.pos {D K : PF} {q m bx bz : Int} (h : Bst D K q 0 9 m bx bz) (hG : GD D) (hK : KG D K) (hq : 0 ≤ q ∧ q < D 339 1) : 0 ≤ m ∧ m ≤ 33 ∧ canS D K q bx bz ∧ m = gtN D K q bx bz ∧ ∀ x y, canS D K q x y → gtN D K q x y < m ∨ gtN D K q x y = m ∧ (bz < y ∨ bz = y ∧ bx ≤ x) := by
  have hd := hG.1
  have l : ∀ x y, canS D K q x y → Lex D 0 9 x y := fun x y c => ⟨c.1, by
    have h1 := c.1
    unfold inQ at h1; simp only at h1; omega⟩
  rcases h with ⟨h1, h2⟩ | ⟨h1, h2, h3, h4, h5, h6⟩
  · exact absurd (canS_own hK hq) (h2 _ _ (l _ _ (canS_own hK hq)))
  · exact ⟨h1, h2, h3, h5, fun x y c => h6 x y (l x y c) c⟩
theorem Bst.uq {D K : PF} {q m bx bz m' bx' bz' : Int} (h : Bst D K q 0 9 m bx bz) (h' : Bst D K q 0 9 m' bx' bz') (hG : GD D) (hK : KG D K) (hq : 0 ≤ q ∧ q < D 339 1) : m = m' ∧ bx = bx' ∧ bz = bz' := by
  obtain ⟨a1, a2, a3, a4, a5⟩ := h.pos hG hK hq
  obtain ⟨b1, b2, b3, b4, b5⟩ := h'.pos hG hK hq
  have c1 := a5 bx' bz' b3
  have c2 := b5 bx bz a3
  omega
noncomputable def stnR (D K : PF) (q : Int) : Int × Int × Int := @Classical.epsilon _ ⟨(0, 0, 0)⟩ (fun r : Int × Int × Int => Bst D K q 0 9 r.1 r.2.1 r.2.2)
theorem stnR_eq {D K : PF} {q m bx bz : Int} (h : Bst D K q 0 9 m bx bz) (hG : GD D) (hK : KG D K) (hq : 0 ≤ q ∧ q < D 339 1) : stnR D K q = (m, bx, bz) := by
  have e := @Classical.epsilon_spec _ (fun r : Int × Int × Int => Bst D K q 0 9 r.1 r.2.1 r.2.2) ⟨(m, bx, bz), h⟩
  obtain ⟨e1, e2, e3⟩ := Bst.uq e h hG hK hq
  exact Prod.ext e1 (Prod.ext e2 e3)
def staV (r : Int × Int × Int) (w : Int) : Int := if w = 2 then r.1 else if w = 0 then r.2.1 else r.2.2
theorem c_canStand {X : CX} {I R D K : PF} {p o q x y : Int} (hs : Shp R) (hp : Plc R p o) (hQ : QR D p I) (hS : StC D K 111 I) (hG : GD D) (hK : KG D K) (hq : inR q) (hx : inR x) (hy : inR y) : CN X 2 mX10_canStand [(2, 64), (0, q), (0, x), (0, y)] I R (fun v I' R' => v.2 = bi (canS D K q x y) ∧ I' = I ∧ R' = R) := by
  refine callee_b (by decide +kernel) (Nat.le_of_ble_eq_true rfl) rfl ?_
  have kp := (plc_k hp).1
  have hD := hG.2.1
  have no : ¬ canS D K q x y → PN X 2 mX10_canStand 24 [] [] I R (fun v I' R' => v.2 = bi (canS D K q x y) ∧ I' = I ∧ R' = R) := fun c => S_X10_canStand_24 ⟨(bi_f c).symm, rfl, rfl⟩
  refine S_X10_canStand_0 (d1 := 0) hp.1 (by omega) (c_within' kp hG hQ hx hy) kp (fun z I1 R1 r => ?_)
  obtain ⟨(hz : z = _), rfl, rfl⟩ := r
  have b := bi_r (inQ D (x, y))
  refine S_X10_canStand_9 (by omega) (fun g => no (fun c => bi_0 (hz.symm.trans g) c.1)) (fun g => ?_)
  have c := bi_1 (by rw [← hz]; exact g)
  refine S_X10_canStand_12 (d1 := 1) hp.1 (by omega) (c_walled' hs kp hG hQ hx hy) kp (fun z2 I2 R2 r => ?_)
  obtain ⟨(hz2 : z2 = _), rfl, rfl⟩ := r
  have b2 := bi_r (inQ D (x, y) ∧ wlT D x y)
  refine S_X10_canStand_21 (by omega) (fun g2 => ?_) (fun g2 => no (fun k => k.2.1 ((bi_1 (c := inQ D (x, y) ∧ wlT D x y) (by rw [← hz2]; exact g2)).2)))
  have c2 := bi_0 (hz2.symm.trans g2)
  refine S_X10_canStand_26 (d1 := 1) hs (by omega) (c_whoK hs (Or.inl rfl) hG hK hS hx hy) (fun z3 I3 R3 r => ?_)
  obtain ⟨(hz3 : z3 = _), rfl, rfl⟩ := r
  have zr : -1 ≤ z3 ∧ z3 < 6 := by
    rcases fI_fst (fun p => K 348 (3 + 5 * p) = x ∧ K 348 (3 + 5 * p + 1) = y) (D 339 1) with ⟨a1, a2⟩ | ⟨a1, a2, a3, a4⟩
    · have : z3 = -1 := hz3.trans a1
      omega
    · have : 0 ≤ whoK K (D 339 1) x y ∧ whoK K (D 339 1) x y < D 339 1 := ⟨a1, a2⟩
      omega
  have yes : canS D K q x y → PN X 2 mX10_canStand 49 [] [] I3 R3 (fun v I' R' => v.2 = bi (canS D K q x y) ∧ I' = I3 ∧ R' = R3) := fun k => S_X10_canStand_49 (S_X10_canStand_54 (by decide) ⟨(bi_t k).symm, rfl, rfl⟩)
  refine S_X10_canStand_35 (by omega) (fun g3 => yes ⟨c, fun k => c2 ⟨c, k⟩, Or.inl (hz3.symm.trans g3)⟩) (fun g3 => ?_)
  refine S_X10_canStand_43 (by omega) hq (fun g4 => ?_) (fun g4 => yes ⟨c, fun k => c2 ⟨c, k⟩, Or.inr (hz3.symm.trans g4)⟩)
  refine S_X10_canStand_53 (S_X10_canStand_54 (by decide) ⟨(bi_f (fun k => ?_)).symm, rfl, rfl⟩)
  rcases k.2.2 with k | k
  · exact g3 (hz3.trans k)
  · exact g4 (hz3.trans k)
theorem c_xstand {XX : CX} {I R D : PF} {p o q w : Int} (hs : Shp R) (hp : Plc R p o) (hT : Tld D p I) (h5 : bd (I 131 5)) (hq : 0 ≤ q ∧ q < D 339 1) (hw : 0 ≤ w ∧ w ≤ 2) :
    CN XX 8 mX10_stand [(2, 64), (0, q), (0, w)] I R (fun v I' R' => v.2 = staV (stnR D I q) w ∧ bd (I' 131 5) ∧ FR (fun x y => mQy p x y ∨ stC 119 x y) I I' ∧ FR scR R R') := by
  refine callee_b (by decide +kernel) (Nat.le_of_ble_eq_true rfl) rfl ?_
  have kp := (plc_k hp).1
  have hpp : p = 72 ∨ p = 91 := sq_o kp
  obtain ⟨hG, hW, hQ, hL, hST, hK, hS, -⟩ := id hT
  have hD := hG.2.1
  have hGd := hG.1
  have k1 := hK.1
  have hbn : bd (I 348 0) := by unfold bd; omega
  have e0 : I 111 0 = I 348 0 := hS.1.1
  have e3 : I 111 3 = D 339 1 := hS.1.2.2.2
  refine S_X10_stand_0 (d1 := 0) hs (by omega) (c_knows kM111 (by unfold inR; omega) (by unfold inR; omega)) (fun z I1 R1 r => ?_)
  obtain ⟨(hz : z = _), rfl, rfl⟩ := r
  rw [bi_t (by omega)] at hz
  refine S_X10_stand_8 (by omega) (fun g => by omega) (fun _ => ?_)
  refine S_X10_stand_11 (by omega) (fun g => by omega) (fun _ => S_X10_stand_15 (by omega) (fun _ => ?_) (fun g => by omega))
  refine S_X10_stand_22 (d1 := 1) hs (by omega) (c_copyFrom hs kM119 kM111 (by decide) (by omega)) (fun z3 I3 R3 r => ?_)
  obtain ⟨x0, x1, x2, x3, x4, x5, rfl⟩ := r
  have hO : StC D I1 119 I3 := by
    refine ⟨⟨x0.trans hS.1.1, x1.trans hS.1.2.1, x2.trans hS.1.2.2.1, x3.trans hS.1.2.2.2⟩, fun r r0 r1 => ?_⟩
    rw [x4 r 0 r0 (by omega) (by decide) (by decide), x4 r 1 r0 (by omega) (by decide) (by decide), x4 r 2 r0 (by omega) (by decide) (by decide), x4 r 3 r0 (by omega) (by decide) (by decide), x4 r 4 r0 (by omega) (by decide) (by decide), x4 r 5 r0 (by omega) (by decide) (by decide), x4 r 6 r0 (by omega) (by decide) (by decide), x4 r 7 r0 (by omega) (by decide) (by decide)]
    exact hS.2 r r0 r1
  have n119 : ∀ x y, (x ≤ 118 ∨ 127 ≤ x) → I3 x y = I1 x y := fun x y c => x5 x y (fun k => by unfold stC at k; omega)
  have hQ3 : QR D p I3 := hQ.fr (fun x a b => funext fun y => n119 x y (by omega)) hG
  have hL3 : LR D p I3 := fun k k0 k1' => by rw [n119 _ _ (by omega)]; exact hL k k0 k1'
  refine S_X10_stand_33 (d1 := 2) hs hp.1 (by omega) (c_prepare hs) (fun z4 I4 R4 r => ?_)
  obtain ⟨q1, q2, q3, q4, q5, rfl⟩ := r
  rw [n119 _ _ (by omega), e0] at q1
  have hF4 := prep_F kp (Or.inr rfl) hG hQ3 hL3 hO (by rw [n119 _ _ (by omega)]; exact h5) q1 q2 q3 q5
  have hs' := pR_s hs p 119 0
  obtain ⟨r0, r1, r2⟩ := pR_v R3 p 119 0
  have fR := pR_scR R3 p 119 0
  have hp' := hp.sc fR
  have f4 : FR (fun x y => mQy p x y ∨ stC 119 x y) I1 I4 := (x5.mono (fun x y c => Or.inr c)).tr (q5.mono (fun x y c => Or.inl (Or.inr c)))
  have own : ptK I1 q (I1 348 (3 + 5 * q)) (I1 348 (3 + 5 * q + 1)) = I1 := by
    unfold ptK; rw [u2_self, u2_self]
  have hF4' : ClF D (ptK I1 q (I1 348 (3 + 5 * q)) (I1 348 (3 + 5 * q + 1))) (I1 348 0) p 119 I4 := by rw [own]; exact hF4
  generalize pR R3 p 119 0 = RR at *
  refine S_X10_stand_56 ?_
  have lp : ∀ (m : Nat) (k X Y x' y' mo bp bx bz : Int) (J : PF), (81 - k).toNat < m → 0 ≤ k → k ≤ 81 → k = 9 * Y + X → 0 ≤ X → X < 9 → ClF D (ptK I1 q x' y') (I1 348 0) p 119 J → FR (fun x y => mQy p x y ∨ stC 119 x y) I1 J → Bst D I1 q X Y mo bx bz → (mo = -1 ∧ bp = 0 ∨ bp = 9 * bz + bx) →
      PN XX 8 mX10_stand 64 [(2, 64), (0, q), (0, w), (0, mo), (0, bp), (0, k)] [] J RR (fun v I' R' => v.2 = staV (stnR D I1 q) w ∧ bd (I' 131 5) ∧ FR (fun x y => mQy p x y ∨ stC 119 x y) I1 I' ∧ FR scR R3 R') := by
    intro m
    induction m with
    | zero => intro k X Y x' y' mo bp bx bz J h; exact absurd h (Nat.not_lt_zero _)
    | succ m ih =>
      intro k X Y x' y' mo bp bx bz J hm k0 k1' hk hX hX9 hF hf hB hbp
      have mr : -1 ≤ mo ∧ mo ≤ 33 := by rcases hB with ⟨c, -⟩ | ⟨c, c2, -⟩ <;> omega
      refine S_X10_stand_64 (by omega) (fun g => ?_) (fun g => ?_)
      · obtain rfl : X = 0 := by omega
        have hB9 := hB.all (by omega) (show D 341 1 ≤ 9 by omega)
        have hE := stnR_eq hB9 hG hK hq
        obtain ⟨b1, b2, b3, -⟩ := hB9.pos hG hK hq
        have b4 := b3.1
        unfold inQ at b4
        simp only at b4
        have hbp' : bp = 9 * bz + bx := by omega
        have fin : ∀ v, v = staV (stnR D I1 q) w → (v = staV (stnR D I1 q) w ∧ bd (J 131 5) ∧ FR (fun x y => mQy p x y ∨ stC 119 x y) I1 J ∧ FR scR R3 RR) := fun v hv => ⟨hv, hF.2.2.2.1.2, hf, fR⟩
        rw [hE] at fin ⊢
        unfold staV at fin ⊢
        simp only at fin ⊢
        refine S_X10_stand_145 (by omega) (fun g2 => ?_) (fun g2 => S_X10_stand_150 (fin _ (by rw [if_pos g2])))
        refine S_X10_stand_152 (by omega) (fun g3 => S_X10_stand_164 (by omega) (S_X10_stand_169 (fin _ ?_))) (fun g3 => S_X10_stand_156 (by omega) (S_X10_stand_169 (fin _ ?_)))
        · rw [if_neg g2, if_neg g3, Int.tdiv_eq_ediv_of_nonneg (by omega)]; omega
        · rw [if_neg g2, if_pos g3, Int.tmod_eq_emod_of_nonneg (by omega)]; omega
      have t1 : k.tmod 9 = X := by rw [Int.tmod_eq_emod_of_nonneg k0]; omega
      have t2 : k.tdiv 9 = Y := by rw [Int.tdiv_eq_ediv_of_nonneg k0]; omega
      have nx : ∀ (L : PF) (x'' y'' mo2 bp2 bx2 bz2 : Int), ClF D (ptK I1 q x'' y'') (I1 348 0) p 119 L → FR (fun x y => mQy p x y ∨ stC 119 x y) I1 L → Bst D I1 q (X + 1) Y mo2 bx2 bz2 → (mo2 = -1 ∧ bp2 = 0 ∨ bp2 = 9 * bz2 + bx2) → PN XX 8 mX10_stand 139 [(2, 64), (0, q), (0, w), (0, mo2), (0, bp2), (0, k)] [] L RR (fun v I' R' => v.2 = staV (stnR D I1 q) w ∧ bd (I' 131 5) ∧ FR (fun x y => mQy p x y ∨ stC 119 x y) I1 I' ∧ FR scR R3 R') := fun L x'' y'' mo2 bp2 bx2 bz2 c1 c2 c3 c4 => by
        refine S_X10_stand_139 ?_
        by_cases c : X = 8
        · exact ih (k + 1) 0 (Y + 1) x'' y'' mo2 bp2 bx2 bz2 L (by omega) (by omega) (by omega) (by omega) (by decide) (by decide) c1 c2 (c3.row (by omega)) c4
        · exact ih (k + 1) (X + 1) Y x'' y'' mo2 bp2 bx2 bz2 L (by omega) (by omega) (by omega) (by omega) (by omega) (by omega) c1 c2 c3 c4
      -- the class's own state stays
      have nf : ∀ x y, (x = 111 ∨ (113 ≤ x ∧ x ≤ 118)) → J x y = I1 x y := fun x y c => hf x y (fun k => by
        rcases k with k | k
        · have := mQy_scC (o := if p = 72 then 91 else 72) k
          unfold mQy mFy mSt1 mWd mCa mPr at k; omega
        · unfold stC at k; omega)
      have hSJ : StC D I1 111 J := hS.fr ⟨by omega, by omega⟩ (fun x y c => nf x y (by unfold stC at c; omega))
      refine S_X10_stand_71 (d1 := 2) (by omega) (by omega) (by rw [t1, t2]; exact c_canStand hs' hp' hF.1 hSJ hG hK (by unfold inR; omega) (by unfold inR; omega) (by unfold inR; omega)) (fun z5 J1 S1 r => ?_)
      obtain ⟨(hz5 : z5 = _), rfl, rfl⟩ := r
      rw [t1, t2]
      have b := bi_r (canS D I1 q X Y)
      refine S_X10_stand_94 (by omega) (fun g2 => nx J1 x' y' mo bp bx bz hF hf (hB.no (fun c => absurd c (bi_0 (hz5.symm.trans g2)))) hbp) (fun g2 => ?_)
      have hc := bi_1 (c := canS D I1 q X Y) (by rw [← hz5]; exact g2)
      refine S_X10_stand_97 (d1 := 0) hs' (by omega) (Q1 := fun _ I' R' => I' = u2 (u2 J1 (119 + 2 + q) 0 X) (119 + 2 + q) 1 Y ∧ R' = S1) (callee_b (by decide +kernel) (Nat.le_of_ble_eq_true rfl) rfl (S_X8_put_0 hs' kM119 (by omega) ⟨rfl, rfl⟩)) (fun z6 J2 S2 r => ?_)
      obtain ⟨rfl, rfl⟩ := r
      have g7 : FR (fun a b => a = 119 + 2 + q ∧ (b = 0 ∨ b = 1)) J1 (u2 (u2 J1 (119 + 2 + q) 0 X) (119 + 2 + q) 1 Y) := (FR_u2 ⟨rfl, Or.inl rfl⟩).tr (FR_u2 ⟨rfl, Or.inr rfl⟩)
      have w0 : (u2 (u2 J1 (119 + 2 + q) 0 X) (119 + 2 + q) 1 Y) (119 + 2 + q) 0 = X := by rw [u2_j (by decide), u2_at]
      have w1 : (u2 (u2 J1 (119 + 2 + q) 0 X) (119 + 2 + q) 1 Y) (119 + 2 + q) 1 = Y := u2_at
      generalize u2 (u2 J1 (119 + 2 + q) 0 X) (119 + 2 + q) 1 Y = J2 at g7 w0 w1
      refine S_X10_stand_109 (d1 := 1) hs' (by omega) (c_forgetFlights hs') (fun z7 J3 S3 r => ?_)
      obtain ⟨v1, v2, rfl⟩ := r
      have g8 : FR (fun a b => (a = 119 + 2 + q ∧ (b = 0 ∨ b = 1)) ∨ a = 134) J1 J3 := (g7.mono (fun x y c => Or.inl c)).tr (v2.mono (fun x y c => Or.inr c))
      have hF3 := hF.pt kp hG hq (x := X) (y := Y) (by rw [v2 _ _ (by omega)]; exact w0) (by rw [v2 _ _ (by omega)]; exact w1) g8
      have hK' := hK.pt hG hq hc
      refine S_X10_stand_116 (d1 := 7) hs' (by omega) (c_countGot (K := ptK I1 q X Y) (noon := I1 348 0) (s := 119) hs' r0 kp r1 r2 (Or.inr rfl) hG hW hK' hbn hF3 (fun x y hq => Or.inl (v1 _ (by obtain ⟨c1, c2, c3, c4⟩ := hq; simp only at c1 c2 c3 c4; omega) (by obtain ⟨c1, c2, c3, c4⟩ := hq; simp only at c1 c2 c3 c4; omega))) (by unfold inR; omega)) (fun z8 J4 S4 r => ?_)
      obtain ⟨(hz8 : z8 = _), hF4', f4', rfl⟩ := r
      have e8 : z8 = gtN D I1 q X Y := hz8
      have gr := gtN_r D I1 q X Y
      have f9 : FR (fun x y => mQy p x y ∨ stC 119 x y) I1 J4 := (hf.tr (g8.mono (fun x y c => by
        rcases c with c | c
        · exact Or.inr (Or.inr (by omega))
        · exact Or.inl (Or.inr (Or.inr (Or.inr (Or.inr c))))))).tr ((mGt_Qy f4').mono (fun x y c => Or.inl c))
      refine S_X10_stand_124 (by omega) (by omega) (fun g3 => ?_) (fun g3 => ?_)
      · exact nx J4 X Y mo bp bx bz hF4' f9 (hB.no (fun _ => by omega)) hbp
      · rw [e8] at g3 ⊢
        exact S_X10_stand_132 (nx J4 X Y _ k X Y hF4' f9 (hB.gt hc g3) (Or.inr hk))
  exact lp 82 0 0 0 _ _ (-1) 0 0 0 I4 (by decide) (by decide) (by decide) (by decide) (by decide) (by decide) hF4' f4 (Or.inl ⟨rfl, fun x y hl => by have h1 := hl.1; have h2 := hl.2; unfold inQ at h1; simp only at h1; omega⟩) (Or.inl ⟨rfl, rfl⟩)
