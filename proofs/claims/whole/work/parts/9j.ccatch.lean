/-! ===== who catches, as the class finds him ===== -/
theorem c_tellFacts {X : CX} {I R : PF} {s p : Int} (hs : Shp R) (hss : s = 111 ∨ s = 119) (hp : 0 ≤ p ∧ p < 6) (hw : inR (I s 1)) :
    CN X 1 mX8_tellFacts [(2, s), (0, p), (2, 131)] I R (fun _ I' R' => (∀ j, 0 ≤ j → j < 8 → I' 131 j = I (s + 2 + p) j) ∧ I' 131 8 = p ∧ I' 131 9 = (if p = I s 1 then I s 2 else 0) ∧ FR (fun x y => x = 131 ∧ 0 ≤ y ∧ y ≤ 9) I I' ∧ R' = R) := by
  refine callee_b (by decide +kernel) (Nat.le_of_ble_eq_true rfl) rfl ?_
  have ks : kd MF s = 8 := by rcases hss with rfl | rfl <;> decide +kernel
  have n131 : (ln MF 131 : Int) = 13 := by decide +kernel
  have f0 : FR (fun x y => x = 131 ∧ 0 ≤ y ∧ y < 8) I (fun x j => if x = 131 ∧ 0 ≤ j ∧ j < 0 + 8 then I (s + 2 + p) (0 + (j - 0)) else I x j) := fun x y c => by
    show (if _ then _ else _) = _
    rw [if_neg (fun k => c (by omega))]
  have v : ∀ j, 0 ≤ j → j < 8 → (fun x j => if x = 131 ∧ 0 ≤ j ∧ j < 0 + 8 then I (s + 2 + p) (0 + (j - 0)) else I x j) 131 j = I (s + 2 + p) j := fun j j0 j1 => by
    show (if _ then _ else _) = _
    rw [if_pos (by omega), show 0 + (j - 0) = j by omega]
  have g1 : FR (fun x y => x = 131 ∧ y = 8) (fun x j => if x = 131 ∧ 0 ≤ j ∧ j < 0 + 8 then I (s + 2 + p) (0 + (j - 0)) else I x j) (u2 (fun x j => if x = 131 ∧ 0 ≤ j ∧ j < 0 + 8 then I (s + 2 + p) (0 + (j - 0)) else I x j) 131 8 p) := FR_u2 ⟨rfl, rfl⟩
  have w8 : (u2 (fun x j => if x = 131 ∧ 0 ≤ j ∧ j < 0 + 8 then I (s + 2 + p) (0 + (j - 0)) else I x j) 131 8 p) 131 8 = p := u2_at
  have f1 : FR (fun x y => x = 131 ∧ 0 ≤ y ∧ y ≤ 8) I (u2 (fun x j => if x = 131 ∧ 0 ≤ j ∧ j < 0 + 8 then I (s + 2 + p) (0 + (j - 0)) else I x j) 131 8 p) := (f0.mono (fun x y c => by omega)).tr (g1.mono (fun x y c => by omega))
  have v' : ∀ j, 0 ≤ j → j < 8 → (u2 (fun x j => if x = 131 ∧ 0 ≤ j ∧ j < 0 + 8 then I (s + 2 + p) (0 + (j - 0)) else I x j) 131 8 p) 131 j = I (s + 2 + p) j := fun j j0 j1 => by
    rw [g1 131 j (fun c => by omega)]; exact v j j0 j1
  have e1 : (u2 (fun x j => if x = 131 ∧ 0 ≤ j ∧ j < 0 + 8 then I (s + 2 + p) (0 + (j - 0)) else I x j) 131 8 p) s 1 = I s 1 := f1 _ _ (fun c => by omega)
  have e2 : (u2 (fun x j => if x = 131 ∧ 0 ≤ j ∧ j < 0 + 8 then I (s + 2 + p) (0 + (j - 0)) else I x j) 131 8 p) s 2 = I s 2 := f1 _ _ (fun c => by omega)
  have fin : ∀ (J : PF) (w : Int), (∀ j, 0 ≤ j → j < 8 → J 131 j = I (s + 2 + p) j) → J 131 8 = p → FR (fun x y => x = 131 ∧ 0 ≤ y ∧ y ≤ 8) I J → w = (if p = I s 1 then I s 2 else 0) →
      PN X 1 mX8_tellFacts 38 [] [(0, w), (0, 9), (2, 131)] J R (fun _ I' R' => (∀ j, 0 ≤ j → j < 8 → I' 131 j = I (s + 2 + p) j) ∧ I' 131 8 = p ∧ I' 131 9 = (if p = I s 1 then I s 2 else 0) ∧ FR (fun x y => x = 131 ∧ 0 ≤ y ∧ y ≤ 9) I I' ∧ R' = R) := fun J w a1 a2 a3 a4 =>
    S_X8_tellFacts_38 (by decide +kernel) (by omega) (by omega) ⟨fun j j0 j1 => by rw [u2_j (by omega)]; exact a1 j j0 j1, by rw [u2_j (by decide)]; exact a2, by rw [u2_at]; exact a4, (a3.mono (fun x y c => by omega)).tr (FR_u2 ⟨rfl, by decide, by decide⟩), rfl⟩
  refine S_X8_tellFacts_0 hs ks hp (by decide +kernel) (by omega) (by omega) (Nat.le_refl _) (by omega) (by unfold inR at hw; omega) (by rw [e1]; exact hw) (fun g => ?_) (fun g => ?_)
  · rw [e1] at g
    generalize (u2 (fun x j => if x = 131 ∧ 0 ≤ j ∧ j < 0 + 8 then I (s + 2 + p) (0 + (j - 0)) else I x j) 131 8 p) = J at *
    exact S_X8_tellFacts_37 (fin J _ v' w8 f1 (by rw [if_neg g]))
  · rw [e1] at g
    generalize (u2 (fun x j => if x = 131 ∧ 0 ≤ j ∧ j < 0 + 8 then I (s + 2 + p) (0 + (j - 0)) else I x j) 131 8 p) = J at *
    exact S_X8_tellFacts_30 ks (fin J _ v' w8 f1 (by rw [if_pos g]; exact e2))
/-- the value of may, where it is told -/
theorem c_mayB {X : CX} {J R : PF} {D K : PF} {noon o hg p : Int} (hs : Shp R) (hk : kd MF o = 6) (hQ : QR D o J) (hG : GD D) (hW : WD D) (hK : KB D K) (hn : bd noon) (hgr : 0 ≤ hg ∧ hg < 10) (hp : 0 ≤ p ∧ p < D 339 1) (ht : D 345 1 ≠ -1) (e10 : J 131 10 = noon) (e11 : J 131 11 = hg) (e5 : bd (J 131 5)) (e2 : J 131 2 = K 342 (24 + 4 * p)) (e3 : J 131 3 = K 342 (25 + 4 * p)) (e7 : J 131 7 = K 348 (3 + 5 * p + 4)) (e9 : J 131 9 = if K 348 1 = p then K 348 2 else 0) :
    CN X 2 mX2_valueBy [(2, o + 8), (2, 131)] J R (fun u I' R' => u.2 = bi (mayV D K noon hg p) ∧ FR (fun x y => x = o + 10 ∧ 0 ≤ y ∧ y < 64) J I' ∧ R' = R) := by
  have hko := sq_o hk
  have ko8 : kd MF (o + 8) = 2 := by rcases hko with rfl | rfl <;> decide +kernel
  have hbe := eP_bd hK hn (show bd hg by unfold bd; omega) hp
  obtain ⟨c1, c2⟩ := cods_CA hQ hW (Or.inr rfl) ht
  rw [show o + 5 + 3 * 1 = o + 8 by omega] at c1 c2
  obtain ⟨b1, b2, b3, b4⟩ := hW.2 1 (Or.inr rfl) ht
  have b53 := hG.2.2.2.2.2.2.2.2.2.1
  have hl : (cods D 1).length = (D 346 1 - D 345 1).toNat := by unfold cods; rw [List.length_map, List.length_range]
  have run := (b4 (eP K noon hg p) 0 [] hbe (fun v h => absurd h List.not_mem_nil) (Nat.le_refl _)).1
  have es := ev_s (s' := J 131 5) (by decide) _ _ run
  refine Callee.mono (c_valueBy (z := 1) (e := eP K noon hg p) (s := J 131 5) (B := bW 1) (w := cods D 1) hs ko8 (by decide +kernel) (by decide +kernel) (by omega) ⟨fun k k0 k1 hk => ?_, rfl⟩ hbe e5 c1 (by omega) c2 b4 (fun v h => bW_bd h)) (fun v I' R' q => ?_)
  · unfold al at hk
    rw [if_neg (by decide), if_pos rfl] at hk
    rcases (show k = 0 ∨ k = 1 ∨ k = 2 ∨ k = 3 ∨ k = 4 ∨ k = 5 by omega) with rfl | rfl | rfl | rfl | rfl | rfl
    · exact e10
    · exact e11
    · exact e2
    · exact e3
    · exact e7
    · exact e9
  · obtain ⟨q1, q2, rfl⟩ := q
    rw [es] at q1
    have hb := ev_bW (s := 0) b4 hbe
    unfold bW at hb
    rw [if_pos rfl] at hb
    refine ⟨?_, q2.mono (fun x y k => by omega), rfl⟩
    rw [q1]
    rcases hb with c | c
    · rw [bi_f (fun k => by rcases k with k | k; exact ht k; omega)]; exact c
    · rw [bi_t (show mayV D K noon hg p from Or.inr c)]; exact c
def mCa (o x y : Int) : Prop := (x = 131 ∧ y ≠ 10) ∨ x = 133 ∨ x = o + 10
theorem ClF.ca {D K : PF} {noon o s : Int} {I I' : PF} (h : ClF D K noon o s I) (hk : kd MF o = 6) (hss : s = 111 ∨ s = 119) (hG : GD D) (f : FR (mCa o) I I') (h5' : bd (I' 131 5)) (h6' : ∀ p h, 0 ≤ p → p < D 339 1 → 0 ≤ h → h < 10 → I' 133 (10 * p + h) = I 133 (10 * p + h) ∨ I' 133 (10 * p + h) = bi (mayV D K noon h p)) : ClF D K noon o s I' := by
  obtain ⟨h1, h2, h3, h4, h5, h6⟩ := h
  have ho := sq_o hk
  have hD := hG.2.1
  have e : ∀ x y, ¬ mCa o x y → I' x y = I x y := f
  refine ⟨h1.f2 (fun x x0 x1 x2 x3 => funext fun y => e x y (fun c => by unfold mCa at c; omega)) hG, fun k k0 k1 => ?_, h3.fr ⟨by omega, by omega⟩ (fun x y c => e x y (fun k => by unfold mCa at k; unfold stC at c; omega)), ⟨?_, h5'⟩, fun k k0 k1 => ?_, fun p k p0 p1 k0 k1 => ?_⟩
  · rw [e _ _ (fun c => by unfold mCa at c; omega)]; exact h2 k k0 k1
  · rw [e _ _ (fun c => by unfold mCa at c; omega)]; exact h4.1
  · rw [e _ _ (fun c => by unfold mCa at c; omega)]; exact h5 k k0 k1
  · rcases h6' p k p0 p1 k0 k1 with c | c
    · rw [c]; exact h6 p k p0 p1 k0 k1
    · exact Or.inr c
theorem cat_loop {X : CX} {d : Nat} {R : PF} {Q : PV → PF → PF → Prop} {I0 D K : PF} {noon o s hg : Int} {h : Int × Int} {P : Int → Int × Int} (hs : Shp R) (hd : 3 ≤ d) (ho : R 127 0 = o) (hk : kd MF o = 6) (hr1 : R 127 1 = s) (hss : s = 111 ∨ s = 119) (hG : GD D) (hW : WD D) (hK : KG D K) (hn : bd noon) (hgr : 0 ≤ hg ∧ hg < 10) (hI : PIn D P) (hq : inQ D h)
    (h1 : I0 127 3 = h.1) (h2 : I0 127 4 = h.2) (h5 : I0 127 5 = hg) (hP0 : ClP (D 339 1) P I0) (hQ : ∀ I', ClF D K noon o s I' → FR (mCa o) I0 I' → Q (0, gtr D K noon hg h P (D 339 1).toNat) I' R) : ∀ (m k : Nat) (I : PF) (x2 x3 : Int), (D 339 1).toNat - k < m → (k : Int) ≤ D 339 1 → ClF D K noon o s I → FR (mCa o) I0 I → inR x2 → inR x3 → (gtr D K noon hg h P k ≠ -1 → x2 = K 342 (24 + 4 * gtr D K noon hg h P k) ∧ x3 = far h (P (gtr D K noon hg h P k))) →
    PN X d mX1_catcher 9 [(2, 127), (0, gtr D K noon hg h P k), (0, x2), (0, x3), (0, (k : Int))] [] I R Q := by
  intro m
  obtain ⟨⟨a1, a2, a3, a4, -⟩, ⟨-, -, r3, r4, -⟩, -⟩ := id hG
  obtain ⟨j1, j2, j3, j4⟩ := id hq
  have hko := sq_o hk
  have ks : kd MF s = 8 := by rcases hss with rfl | rfl <;> decide +kernel
  have hKB := hK.kb hG
  induction m with
  | zero => intro k I x2 x3 h; exact absurd h (Nat.not_lt_zero _)
  | succ m ih =>
    intro k I x2 x3 hm hk' hF hf hx2 hx3 hbest
    obtain ⟨f1, f2, f3, ⟨f4, f4'⟩, f5, f6⟩ := id hF
    have gr := gtr_r D K noon hg h P k
    have es3 : I s 3 = D 339 1 := f3.1.2.2.2
    refine S_X1_catcher_9 hr1 ks (by omega) (by omega) (fun g => ?_) (fun g => ?_)
    · refine S_X1_catcher_236 ?_
      have := hQ I hF hf
      rw [show (D 339 1).toNat = k by omega] at this
      exact this
    have hkp : 0 ≤ (k : Int) ∧ (k : Int) < D 339 1 := by omega
    have e127 : ∀ y, I 127 y = I0 127 y := fun y => hf _ _ (fun c => by unfold mCa at c; omega)
    obtain ⟨p1, p2⟩ := hP0 k hkp.1 hkp.2
    have p1' : I 128 k = (P k).1 := by rw [hf _ _ (fun c => by unfold mCa at c; omega)]; exact p1
    have p2' : I 129 k = (P k).2 := by rw [hf _ _ (fun c => by unfold mCa at c; omega)]; exact p2
    obtain ⟨i1, i2, i3, i4⟩ := hI k hkp.1 hkp.2
    obtain ⟨t0, t1, t2, t3, t4, t5, t6, t7⟩ := f3.2 k hkp.1 hkp.2
    obtain ⟨⟨u1, u1'⟩, ⟨u2', u2''⟩, u3, u4, u5, u6⟩ := hK.2.2.2.2.2 k hkp.1 hkp.2
    have fr1 : far h (P k) ≤ 100 ∧ 0 ≤ far h (P k) := by unfold far; omega
    refine S_X1_catcher_21 (d1 := 1) hs hr1 ks (by omega) (by omega) (by rw [p1', p2']; exact c_farFromHat ((e127 3).trans h1) ((e127 4).trans h2) (by omega) (by omega) (by omega)) (fun z I1 R1 q => ?_)
    obtain ⟨(hz : z = far h (P k)), rfl, rfl⟩ := q
    rw [t2, hz]
    have next : ∀ (J : PF) (b y2 y3 : Int), b = gtr D K noon hg h P (k + 1) → ClF D K noon o s J → FR (mCa o) I0 J → inR y2 → inR y3 → (b ≠ -1 → y2 = K 342 (24 + 4 * b) ∧ y3 = far h (P b)) → PN X d mX1_catcher 230 [(2, 127), (0, b), (0, y2), (0, y3), (0, (k : Int))] [] J R1 Q := fun J b y2 y3 hb c1 c2 c3 c4 c5 => by
      refine S_X1_catcher_230 ?_
      have := ih (k + 1) J y2 y3 (by omega) (by omega) c1 c2 c3 c4 (by rw [← hb]; exact c5)
      rw [← hb, show ((k + 1 : Nat) : Int) = (k : Int) + 1 by omega] at this
      exact this
    have hgt : gtr D K noon hg h P (k + 1) = cif (canG D K noon hg h P k ∧ btr K h P (gtr D K noon hg h P k) k) (k : Int) (gtr D K noon hg h P k) := rfl
    generalize gtr D K noon hg h P k = b at *
    have no : ∀ J : PF, ClF D K noon o s J → FR (mCa o) I0 J → ¬ (canG D K noon hg h P k ∧ btr K h P b k) → PN X d mX1_catcher 230 [(2, 127), (0, b), (0, x2), (0, x3), (0, (k : Int))] [] J R1 Q := fun J c1 c2 c => next J b x2 x3 (by rw [hgt, cif_f c]) c1 c2 hx2 hx3 hbest
    -- behind the note on may
    have bb := bi_r (btr K h P b k)
    have tail : ∀ J : PF, ClF D K noon o s J → FR (mCa o) I0 J → (btr K h P b k → far h (P k) ≤ 1 → hg ≤ K 342 (24 + 4 * (k : Int)) → J 133 (10 * (k : Int) + hg) = bi (mayV D K noon hg k)) →
        PN X d mX1_catcher 191 [(2, 127), (0, b), (0, x2), (0, x3), (0, (k : Int)), (0, K 342 (24 + 4 * (k : Int))), (0, far h (P k)), (0, bi (btr K h P b k)), (0, 10 * (k : Int) + hg)] [] J R1 Q := fun J c1 c2 c3 => by
      have j5 : J 127 5 = hg := by rw [c2 _ _ (fun c => by unfold mCa at c; omega)]; exact h5
      refine S_X1_catcher_191 (by omega) (fun g => no J c1 c2 (fun c => bi_0 g c.2)) (fun g => ?_)
      have cb := bi_1 g
      refine S_X1_catcher_196 (by omega) (fun g1 => no J c1 c2 (fun c => by have := c.1.1; omega)) (fun g1 => ?_)
      refine S_X1_catcher_202 (by omega) (by omega) (fun g2 => no J c1 c2 (fun c => by have := c.1.2.1; omega)) (fun g2 => ?_)
      have v := c3 cb g1 (by omega)
      have br := bi_r (mayV D K noon hg k)
      refine S_X1_catcher_211 hs (by omega) (by omega) (fun g3 => no J c1 c2 (fun c => bi_0 (v.symm.trans g3) c.1.2.2)) (fun g3 => ?_)
      have cm := bi_1 (by rw [← v]; exact g3)
      refine S_X1_catcher_221 (next J k _ _ ?_ c1 c2 (by unfold inR; omega) (by unfold inR; omega) (fun _ => ⟨rfl, rfl⟩))
      rw [hgt, cif_t ⟨⟨g1, by omega, cm⟩, cb⟩]
    have i5 : I1 127 5 = hg := (e127 5).trans h5
    -- is he better
    have at83 : ∀ w, w = bi (btr K h P b k) → PN X d mX1_catcher 83 [(2, 127), (0, b), (0, x2), (0, x3), (0, (k : Int)), (0, K 342 (24 + 4 * (k : Int))), (0, far h (P k))] [(0, w)] I1 R1 Q := fun w hw => by
      rw [hw]
      refine S_X1_catcher_83 (by omega) (fun g => ?_) (fun g => ?_)
      · rw [i5]; exact tail I1 hF hf (fun c => absurd c (bi_0 g))
      have cb := bi_1 g
      rw [i5]
      refine S_X1_catcher_102 (by omega) (fun g1 => tail I1 hF hf (fun _ c => by omega)) (fun g1 => ?_)
      refine S_X1_catcher_108 (by omega) (by omega) (fun g2 => tail I1 hF hf (fun _ _ c => by omega)) (fun g2 => ?_)
      have v6 := f6 k hg hkp.1 hkp.2 hgr.1 hgr.2
      have br := bi_r (mayV D K noon hg k)
      refine S_X1_catcher_117 hs (by omega) (by rcases v6 with c | c <;> omega) (fun g3 => ?_) (fun g3 => ?_)
      · exact tail I1 hF hf (fun _ _ _ => v6.resolve_left g3)
      have ew : I1 s 1 = K 348 1 := f3.1.2.1
      have kw := hK.2.1
      refine S_X1_catcher_129 (d1 := 1) hs hr1 (by omega) (c_tellFacts hs hss (by omega) (by unfold inR; omega)) ks (fun z2 J1 S1 q => ?_)
      obtain ⟨q1, q2, q3, q4, rfl⟩ := q
      have s7 : (127 : Int) ≠ 131 := by decide
      have j5 : J1 127 5 = hg := by rw [q4 _ _ (fun c => by omega)]; exact i5
      have g5 : FR (fun x y => x = 131 ∧ y = 11) J1 (u2 J1 131 11 (J1 127 5)) := FR_u2 ⟨rfl, rfl⟩
      have w11 : (u2 J1 131 11 (J1 127 5)) 131 11 = hg := by rw [u2_at]; exact j5
      have f7 : FR (fun x y => x = 131 ∧ y ≠ 10) I1 (u2 J1 131 11 (J1 127 5)) := (q4.mono (fun x y c => ⟨c.1, by omega⟩)).tr (g5.mono (fun x y c => ⟨c.1, by omega⟩))
      have wj : ∀ j, 0 ≤ j → j < 8 → (u2 J1 131 11 (J1 127 5)) 131 j = I1 (s + 2 + k) j := fun j j0 j1 => by rw [g5 _ _ (fun c => by omega)]; exact q1 j j0 j1
      have w9 : (u2 J1 131 11 (J1 127 5)) 131 9 = if K 348 1 = (k : Int) then K 348 2 else 0 := by
        rw [g5 _ _ (fun c => by omega), q3, ew, f3.1.2.2.1]
        by_cases e : (k : Int) = K 348 1
        · rw [if_pos e, if_pos e.symm]
        · rw [if_neg e, if_neg (fun c => e c.symm)]
      have hF2 : ClF D K noon o s (u2 J1 131 11 (J1 127 5)) := hF.ca hk hss hG (f7.mono (fun x y c => Or.inl c)) (by rw [wj 5 (by decide) (by decide), t5]; unfold bd; omega) (fun p h _ _ _ _ => Or.inl (f7 _ _ (fun c => by omega)))
      have hf2 : FR (mCa o) I0 (u2 J1 131 11 (J1 127 5)) := hf.tr (f7.mono (fun x y c => Or.inl c))
      generalize hJ : u2 J1 131 11 (J1 127 5) = J2 at *
      have ko8 : kd MF (o + 8) = 2 := by rcases hko with rfl | rfl <;> decide +kernel
      have e345 := hG.2.2.2.2.2.2.2.2.2.2.2
      have e53 := hG.2.2.2.2.2.2.2.2.2.1
      obtain ⟨d1, d2⟩ := hF2.1.2.2.2.2.2.2.2 1 (Or.inr rfl)
      rw [show o + 5 + 3 * 1 = o + 8 by omega] at d1 d2
      have l8 : inR (J2 (o + 8) 2) ∧ (0 < J2 (o + 8) 2 ↔ D 345 1 ≠ -1) := by
        by_cases c : D 345 1 = -1
        · rw [d1 c]; exact ⟨by unfold inR; omega, ⟨fun k => by omega, fun k => absurd c k⟩⟩
        · have := (d2 c).1
          exact ⟨by unfold inR; omega, ⟨fun _ => c, fun _ => by omega⟩⟩
      -- the note is written
      have fin : ∀ (J3 : PF) (w : Int), w = bi (mayV D K noon hg k) → FR (fun x y => x = o + 10) J2 J3 → PN X d mX1_catcher 190 [(2, 127), (0, b), (0, x2), (0, x3), (0, (k : Int)), (0, K 342 (24 + 4 * (k : Int))), (0, far h (P k)), (0, bi (btr K h P b k)), (0, 10 * (k : Int) + hg)] [(0, w), (0, 10 * (k : Int) + hg), (2, 133)] J3 S1 Q := fun J3 w hw' c1 => by
        have g6 : FR (fun x y => x = 133 ∧ y = 10 * (k : Int) + hg) J3 (u2 J3 133 (10 * (k : Int) + hg) w) := FR_u2 ⟨rfl, rfl⟩
        have w6 : (u2 J3 133 (10 * (k : Int) + hg) w) 133 (10 * (k : Int) + hg) = bi (mayV D K noon hg k) := by rw [u2_at]; exact hw'
        refine S_X1_catcher_190 (by omega) ?_
        generalize u2 J3 133 (10 * (k : Int) + hg) w = J4 at g6 w6
        have f8 : FR (mCa o) J2 J4 := (c1.mono (fun x y c => Or.inr (Or.inr c))).tr (g6.mono (fun x y c => Or.inr (Or.inl c.1)))
        refine tail J4 (hF2.ca hk hss hG f8 ?_ (fun p h p0 p1 h0 h1 => ?_)) (hf2.tr f8) (fun _ _ _ => w6)
        · rw [g6 _ _ (fun c => by omega), c1 _ _ (fun c => by omega)]; exact hF2.2.2.2.1.2
        · by_cases c : 10 * p + h = 10 * (k : Int) + hg
          · obtain ⟨rfl, rfl⟩ : p = (k : Int) ∧ h = hg := by omega
            exact Or.inr w6
          · rw [g6 _ _ (fun k => c k.2), c1 _ _ (fun c => by omega)]; exact Or.inl rfl
      refine S_X1_catcher_142 (d1 := 0) hs ho hk (by omega) (by rw [hJ]; exact c_isToldF ko8 l8.1) (fun z3 J3 S3 q => ?_)
      obtain ⟨(hz3 : z3 = _), rfl, rfl⟩ := q
      have b3 := bi_r (0 < J3 (o + 8) 2)
      refine S_X1_catcher_169 (by omega) (fun g4 => ?_) (fun g4 => ?_)
      · have c := bi_0 (hz3.symm.trans g4)
        have c1 : D 345 1 = -1 := Decidable.byContradiction (fun k => c (l8.2.mpr k))
        exact S_X1_catcher_189 (fin J3 1 (bi_t (show mayV D K noon hg k from Or.inl c1)).symm FR.rf)
      · have c := l8.2.mp (bi_1 (by rw [← hz3]; exact g4))
        refine S_X1_catcher_172 (d1 := 2) hs ho hk (by omega) (c_mayB hs hk hF2.1 hG hW hKB hn hgr hkp c hF2.2.2.2.1.1 w11 hF2.2.2.2.1.2 (by rw [wj 2 (by decide) (by decide)]; exact t2) (by rw [wj 3 (by decide) (by decide)]; exact t3) (by rw [wj 7 (by decide) (by decide)]; exact t7) w9) (fun z4 J4 S4 q => ?_)
        obtain ⟨(hz4 : z4 = _), q6, rfl⟩ := q
        exact S_X1_catcher_186 (fin J4 z4 hz4 (q6.mono (fun x y c => c.1)))
    have yes : btr K h P b k → PN X d mX1_catcher 78 [(2, 127), (0, b), (0, x2), (0, x3), (0, (k : Int)), (0, K 342 (24 + 4 * (k : Int))), (0, far h (P k))] [] I1 R1 Q := fun c => S_X1_catcher_78 (at83 1 (bi_t c).symm)
    have nay : ¬ btr K h P b k → PN X d mX1_catcher 82 [(2, 127), (0, b), (0, x2), (0, x3), (0, (k : Int)), (0, K 342 (24 + 4 * (k : Int))), (0, far h (P k))] [] I1 R1 Q := fun c => S_X1_catcher_82 (at83 0 (bi_f c).symm)
    refine S_X1_catcher_53 (by omega) (fun g2 => yes (Or.inl g2)) (fun g2 => ?_)
    obtain ⟨y2, y3⟩ := hbest g2
    refine S_X1_catcher_60 (by omega) hx2 (fun g3 => yes (Or.inr (Or.inl (by omega)))) (fun g3 => ?_)
    refine S_X1_catcher_66 (by omega) hx2 (fun g4 => nay (fun c => ?_)) (fun g4 => ?_)
    · rcases c with c | c | c <;> omega
    refine S_X1_catcher_72 (by omega) hx3 (fun g5 => nay (fun c => ?_)) (fun g5 => yes (Or.inr (Or.inr ⟨by omega, by omega⟩)))
    rcases c with c | c | c <;> omega
theorem c_catcher {X : CX} {I R : PF} {D K : PF} {noon o s hg : Int} {h : Int × Int} {P : Int → Int × Int} (hs : Shp R) (ho : R 127 0 = o) (hk : kd MF o = 6) (hr1 : R 127 1 = s) (hss : s = 111 ∨ s = 119) (hF : ClF D K noon o s I) (hG : GD D) (hW : WD D) (hK : KG D K) (hn : bd noon) (hgr : 0 ≤ hg ∧ hg < 10) (hI : PIn D P) (hq : inQ D h)
    (h1 : I 127 3 = h.1) (h2 : I 127 4 = h.2) (h5 : I 127 5 = hg) (hP0 : ClP (D 339 1) P I) :
    CN X 3 mX1_catcher [(2, 127)] I R (fun v I' R' => v.2 = gtr D K noon hg h P (D 339 1).toNat ∧ ClF D K noon o s I' ∧ FR (mCa o) I I' ∧ R' = R) := by
  refine callee_b (by decide +kernel) (Nat.le_of_ble_eq_true rfl) rfl ?_
  have hD := hG.2.1
  exact S_X1_catcher_0 (cat_loop (I0 := I) (K := K) (noon := noon) (h := h) (P := P) hs (Nat.le_refl _) ho hk hr1 hss hG hW hK hn hgr hI hq h1 h2 h5 hP0 (fun I' a b => ⟨rfl, a, b, rfl⟩) _ 0 I 0 0 (Nat.lt_succ_self _) (by omega) hF FR.rf (by decide) (by decide) (fun c => absurd rfl c))
