/-! ===== a noon: how all stands behind it ===== -/
def wnK (K : PF) (who : Int) : PF := fun x y => if x = 348 then (if y = 1 then who else if y = 2 then (if who = -1 then 0 else if who = K 348 1 then min 99 (K 348 2 + 1) else 1) else if who ≠ -1 ∧ y = 3 + 5 * who + 4 then min 999 (K 348 y + 1) else K 348 y) else K x y
def kpK (K : PF) (beat : Int) : PF := fun x y => if x = 348 then
    (if K 348 33 = 40 then (if 34 ≤ y ∧ y < 151 then K 348 (y + 3) else if y = 151 then K 348 0 else if y = 152 then (if K 348 1 = -1 then 255 else K 348 1) else if y = 153 then beat else K 348 y)
      else (if y = 33 then K 348 33 + 1 else if y = 34 + 3 * K 348 33 then K 348 0 else if y = 34 + 3 * K 348 33 + 1 then (if K 348 1 = -1 then 255 else K 348 1) else if y = 34 + 3 * K 348 33 + 2 then beat else K 348 y)) else K x y
def inK (K : PF) : PF := u2 K 348 0 (K 348 0 + 1)
/-- kp: is the noon kept -/
def nxK (kp : Bool) (K : PF) (who beat : Int) : PF := inK (if kp then kpK (wnK K who) beat else wnK K who)
/-- the way and the force now -/
def wyK (K : PF) : Int := if K 348 1 = -1 then 0 else K 348 (3 + 5 * K 348 1 + 2)
def fcK (K : PF) : Int := if K 348 1 = -1 then 0 else K 348 (3 + 5 * K 348 1 + 3)
/-- the throw of a noon -/
noncomputable def nnR (D K : PF) (dr sd gm : Int) : Int × Int × (Int × Int) × Int × Int := flyR D K (K 348 0) dr (D 341 4).toNat (bit D (wyK K) (fcK K).toNat (D 341 2, D 341 3)) (P0 K) sd gm 0
theorem kpK_lo {K : PF} {b y : Int} (hk : 0 ≤ K 348 33) (h : y < 33) : kpK K b 348 y = K 348 y := by
  unfold kpK
  rw [if_pos rfl]
  by_cases c : K 348 33 = 40
  · rw [if_pos c, if_neg (by omega), if_neg (by omega), if_neg (by omega), if_neg (by omega)]
  · rw [if_neg c, if_neg (by omega), if_neg (by omega), if_neg (by omega), if_neg (by omega)]
theorem nxK_lo {kp : Bool} {K : PF} {w b y : Int} (hk : 0 ≤ K 348 33) (hw : w < 6) (h : y < 33) (h0 : y ≠ 0) : nxK kp K w b 348 y = wnK K w 348 y := by
  unfold nxK inK
  rw [u2_j h0]
  cases kp with
  | false => rfl
  | true =>
    refine kpK_lo ?_ h
    unfold wnK
    rw [if_pos rfl, if_neg (by decide), if_neg (by decide), if_neg (by omega)]
    exact hk
theorem nxK_0 {kp : Bool} {K : PF} {w b : Int} (hk : 0 ≤ K 348 33) (hw : -1 ≤ w ∧ w < 6) : nxK kp K w b 348 0 = K 348 0 + 1 := by
  unfold nxK inK
  rw [u2_at]
  have e : wnK K w 348 0 = K 348 0 := by unfold wnK; rw [if_pos rfl, if_neg (by decide), if_neg (by decide), if_neg (by omega)]
  cases kp with
  | false => show wnK K w 348 0 + 1 = _; rw [e]
  | true =>
    show kpK (wnK K w) b 348 0 + 1 = _
    rw [kpK_lo ?_ (by decide), e]
    unfold wnK
    rw [if_pos rfl, if_neg (by decide), if_neg (by decide), if_neg (by omega)]
    exact hk
theorem nxK_x {kp : Bool} {K : PF} {w b x : Int} (h : x ≠ 348) (y : Int) : nxK kp K w b x y = K x y := by
  unfold nxK inK
  rw [u2_o h]
  cases kp with
  | false => show wnK K w x y = _; unfold wnK; rw [if_neg h]
  | true => show kpK (wnK K w) b x y = _; unfold kpK wnK; rw [if_neg h, if_neg h]
theorem wnK_1 (K : PF) (w : Int) : wnK K w 348 1 = w := by unfold wnK; rw [if_pos rfl, if_pos rfl]
theorem wnK_2 (K : PF) (w : Int) : wnK K w 348 2 = (if w = -1 then 0 else if w = K 348 1 then min 99 (K 348 2 + 1) else 1) := by unfold wnK; rw [if_pos rfl, if_neg (by decide), if_pos rfl]
theorem wnK_p {K : PF} {w p j : Int} (hp : 0 ≤ p) (hj : 0 ≤ j ∧ j < 4) : wnK K w 348 (3 + 5 * p + j) = K 348 (3 + 5 * p + j) := by
  unfold wnK; rw [if_pos rfl, if_neg (by omega), if_neg (by omega), if_neg (by omega)]
theorem wnK_4 {K : PF} {w p : Int} (hp : 0 ≤ p) : wnK K w 348 (3 + 5 * p + 4) = if w = p then min 999 (K 348 (3 + 5 * p + 4) + 1) else K 348 (3 + 5 * p + 4) := by
  unfold wnK; rw [if_pos rfl, if_neg (by omega), if_neg (by omega)]
  by_cases c : w = p
  · rw [if_pos c, if_pos ⟨by omega, by omega⟩]
  · rw [if_neg c, if_neg (by omega)]
theorem nxK_P0 {kp : Bool} {K : PF} {w b p : Int} (hk : 0 ≤ K 348 33) (hw : w < 6) (hp : 0 ≤ p ∧ p < 6) : P0 (nxK kp K w b) p = P0 K p := by
  unfold P0
  rw [nxK_lo hk hw (by omega) (by omega), nxK_lo hk hw (by omega) (by omega)]
  have e := wnK_p (K := K) (w := w) (j := 0) hp.1 (by decide)
  rw [Int.add_zero] at e
  rw [e, wnK_p hp.1 (by decide)]
theorem KG.nx {kp : Bool} {D K : PF} {w b : Int} (h : KG D K) (hG : GD D) (hk : 0 ≤ K 348 33) (hw : -1 ≤ w ∧ w < D 339 1) (hn : K 348 0 < 999) : KG D (nxK kp K w b) := by
  obtain ⟨h1, h2, h3, h4, h5, h6⟩ := h
  have hD := hG.2.1
  have lo := fun y (a : y < 33) (c : y ≠ 0) => nxK_lo (kp := kp) (K := K) (w := w) (b := b) hk (by omega) a c
  refine ⟨by rw [nxK_0 hk (by omega)]; omega, by rw [lo 1 (by decide) (by decide), wnK_1]; exact hw, ?_, fun p p0 p1 => ?_, ⟨fun k j k0 k1 j0 j1 kj => ?_, fun k k0 k1 => ?_⟩, fun p p0 p1 => ?_⟩
  · rw [lo 2 (by decide) (by decide), wnK_2]
    by_cases c : w = -1
    · rw [if_pos c]; decide
    · rw [if_neg c]
      by_cases c2 : w = K 348 1
      · rw [if_pos c2]; omega
      · rw [if_neg c2]; decide
  · rw [nxK_P0 hk (by omega) (by omega)]; exact h4 p p0 p1
  · rw [nxK_P0 hk (by omega) (by omega), nxK_P0 hk (by omega) (by omega)]; exact h5.1 k j k0 k1 j0 j1 kj
  · rw [nxK_P0 hk (by omega) (by omega)]; exact h5.2 k k0 k1
  · obtain ⟨a1, a2, a3, a4, a5, a6⟩ := h6 p p0 p1
    rw [nxK_x (by decide), nxK_x (by decide), nxK_x (by decide), lo _ (by omega) (by omega), lo _ (by omega) (by omega), lo _ (by omega) (by omega), wnK_p p0 (by decide), wnK_p p0 (by decide), wnK_4 p0]
    refine ⟨a1, a2, a3, a4, a5, ?_⟩
    by_cases c : w = p
    · rw [if_pos c]; omega
    · rw [if_neg c]; exact a6
theorem c_wear {X : CX} {I R : PF} {kp : Bool} {D K : PF} {s w b : Int} (hs : Shp R) (hss : s = 111 ∨ s = 119) (hG : GD D) (hK : KG D K) (hk : 0 ≤ K 348 33) (hS : StC D K s I) (hw : -1 ≤ w ∧ w < D 339 1) (hn : K 348 0 < 999) :
    CN X 1 mX8_wear [(2, s), (0, w)] I R (fun _ I' R' => StC D (nxK kp K w b) s I' ∧ FR (stC s) I I' ∧ R' = R) := by
  refine callee_b (by decide +kernel) (Nat.le_of_ble_eq_true rfl) rfl ?_
  have hD := hG.2.1
  obtain ⟨k1, k2, k3, -, -, k6⟩ := hK
  have ks : kd MF s = 8 := by rcases hss with rfl | rfl <;> decide +kernel
  obtain ⟨⟨s0, s1, s2, s3⟩, sp⟩ := id hS
  have lo := fun y (a : y < 33) (c : y ≠ 0) => nxK_lo (kp := kp) (K := K) (w := w) (b := b) hk (by omega) a c
  -- the end
  have fin : ∀ J : PF, FR (stC s) I J → J s 0 = K 348 0 → J s 2 = wnK K w 348 2 → J s 3 = D 339 1 → (∀ p, 0 ≤ p → p < D 339 1 → (∀ j, 0 ≤ j → j < 7 → J (s + 2 + p) j = I (s + 2 + p) j) ∧ J (s + 2 + p) 7 = wnK K w 348 (3 + 5 * p + 4)) →
      PN X 1 mX8_wear 69 [(2, s), (0, w)] [] J R (fun _ I' R' => StC D (nxK kp K w b) s I' ∧ FR (stC s) I I' ∧ R' = R) := fun J f j0 j2 j3 jp => by
    have g1 : FR (fun x y => x = s ∧ y = 1) J (u2 J s 1 w) := FR_u2 ⟨rfl, rfl⟩
    have w1 : u2 J s 1 w s 1 = w := u2_at
    have e0 : u2 J s 1 w s 0 = K 348 0 := by rw [u2_j (by decide)]; exact j0
    refine S_X8_wear_69 (d1 := 0) ks (by omega) (c_min (by decide) (by rw [e0]; unfold inR; omega)) (fun z I1 R1 q => ?_)
    obtain ⟨(hz : z = min 999 (u2 J s 1 w s 0 + 1)), rfl, rfl⟩ := q
    rw [e0] at hz
    have g2 : FR (fun x y => x = s ∧ (y = 0 ∨ y = 1)) J (u2 (u2 J s 1 w) s 0 z) := (g1.mono (fun x y c => ⟨c.1, Or.inr c.2⟩)).tr (FR_u2 ⟨rfl, Or.inl rfl⟩)
    refine S_X8_wear_87 ks ⟨⟨⟨?_, ?_, ?_, ?_⟩, fun p p0 p1 => ?_⟩, f.tr (g2.mono (fun x y c => Or.inl ⟨c.1, by omega, by omega⟩)), rfl⟩
    · rw [u2_at, nxK_0 hk (by omega), hz]; omega
    · rw [u2_j (by decide), w1, lo 1 (by decide) (by decide), wnK_1]
    · rw [g2 _ _ (fun c => by omega), j2, lo 2 (by decide) (by decide)]
    · rw [g2 _ _ (fun c => by omega), j3]
    · obtain ⟨t1, t2⟩ := jp p p0 p1
      obtain ⟨a0, a1, a2, a3, a4, a5, a6, a7⟩ := sp p p0 p1
      have e : ∀ y, (u2 (u2 J s 1 w) s 0 z) (s + 2 + p) y = J (s + 2 + p) y := fun y => g2 _ _ (fun c => by omega)
      rw [e, e, e, e, e, e, e, e, t1 0 (by decide) (by decide), t1 1 (by decide) (by decide), t1 2 (by decide) (by decide), t1 3 (by decide) (by decide), t1 4 (by decide) (by decide), t1 5 (by decide) (by decide), t1 6 (by decide) (by decide), t2, lo (3 + 5 * p) (by omega) (by omega), lo (3 + 5 * p + 1) (by omega) (by omega), lo (3 + 5 * p + 2) (by omega) (by omega), lo (3 + 5 * p + 3) (by omega) (by omega), lo (3 + 5 * p + 4) (by omega) (by omega), nxK_x (x := 342) (by decide), nxK_x (x := 342) (by decide), nxK_x (x := 342) (by decide), wnK_p p0 (by decide), wnK_p p0 (by decide), wnK_p p0 (by decide)]
      have e3 := wnK_p (K := K) (w := w) (j := 0) p0 (by decide)
      rw [Int.add_zero] at e3
      rw [e3]
      exact ⟨a0, a1, a2, a3, a4, a5, a6, rfl⟩
  refine S_X8_wear_0 (d1 := 0) (by omega) (c_knows ks (by unfold inR; omega) (by unfold inR; omega)) ks (fun z I1 R1 q => ?_)
  obtain ⟨(hz : z = _), rfl, rfl⟩ := q
  rw [s3] at hz
  have br := bi_r (0 ≤ w ∧ w < D 339 1)
  refine S_X8_wear_5 (by omega) (fun g => ?_) (fun g => ?_)
  · have c := bi_1 (by rw [← hz]; exact g)
    obtain ⟨a0, a1, a2, a3, a4, a5, a6, a7⟩ := sp w c.1 c.2
    obtain ⟨b1, b2, b3, b4, b5, b6⟩ := k6 w c.1 c.2
    have at40 : ∀ v, v = wnK K w 348 2 → PN X 1 mX8_wear 40 [(2, s), (0, w)] [(0, v), (2, s)] I1 R1 (fun _ I' R' => StC D (nxK kp K w b) s I' ∧ FR (stC s) I1 I' ∧ R' = R1) := fun v hv => by
      have g1 : FR (fun x y => x = s ∧ y = 2) I1 (u2 I1 s 2 v) := FR_u2 ⟨rfl, rfl⟩
      have w2 : u2 I1 s 2 v s 2 = v := u2_at
      have e7 : u2 I1 s 2 v (s + 2 + w) 7 = K 348 (3 + 5 * w + 4) := by rw [g1 _ _ (fun c => by omega)]; exact a7
      refine S_X8_wear_40 (d1 := 0) hs ks ks (by omega) (by omega) (c_min (by decide) (by rw [e7]; unfold inR; omega)) (fun z2 I2 R2 q => ?_)
      obtain ⟨(hz2 : z2 = min 999 (u2 I1 s 2 v (s + 2 + w) 7 + 1)), rfl, rfl⟩ := q
      rw [e7] at hz2
      have k8 : kd MF (s + 2 + w) = 12 ∧ (ln MF (s + 2 + w) : Int) = 8 := stR ks (by omega) (by omega)
      have g3 : FR (fun x y => x = s + 2 + w ∧ y = 7) (u2 I1 s 2 v) (u2 (u2 I1 s 2 v) (s + 2 + w) 7 z2) := FR_u2 ⟨rfl, rfl⟩
      have w3 : (u2 (u2 I1 s 2 v) (s + 2 + w) 7 z2) (s + 2 + w) 7 = z2 := u2_at
      refine S_X8_wear_68 k8.1 (by omega) (by omega) (fin _ ((g1.mono (fun x y c => Or.inl (by omega))).tr (g3.mono (fun x y c => Or.inr (by omega)))) ?_ ?_ ?_ (fun p p0 p1 => ⟨fun j j0 j1 => ?_, ?_⟩))
      · rw [g3 _ _ (fun c => by omega), g1 _ _ (fun c => by omega)]; exact s0
      · rw [g3 _ _ (fun c => by omega), w2]; exact hv
      · rw [g3 _ _ (fun c => by omega), g1 _ _ (fun c => by omega)]; exact s3
      · rw [g3 _ _ (fun c => by omega), g1 _ _ (fun c => by omega)]
      · rw [wnK_4 p0]
        by_cases e : w = p
        · rw [if_pos e, ← e, w3]; exact hz2
        · rw [if_neg e, g3 _ _ (fun c => by omega), g1 _ _ (fun c => by omega)]; exact (sp p p0 p1).2.2.2.2.2.2.2
    refine S_X8_wear_16 ks (by omega) (by omega) (fun g2 => ?_) (fun g2 => ?_)
    · refine S_X8_wear_39 (at40 1 ?_)
      rw [wnK_2, if_neg (by omega), if_neg (by omega)]
    · refine S_X8_wear_25 (d1 := 0) ks (by omega) (c_min (by decide) (by unfold inR; omega)) (fun z2 I2 R2 q => ?_)
      obtain ⟨(hz2 : z2 = _), rfl, rfl⟩ := q
      refine S_X8_wear_36 (at40 z2 ?_)
      rw [wnK_2, if_neg (by omega), if_pos (by omega), hz2, s2]
  · have c := bi_0 (hz.symm.trans g)
    have cw : w = -1 := by omega
    have g1 : FR (fun x y => x = s ∧ y = 2) I1 (u2 I1 s 2 0) := FR_u2 ⟨rfl, rfl⟩
    refine S_X8_wear_8 ks (fin _ (g1.mono (fun x y c => Or.inl (by omega))) ?_ ?_ ?_ (fun p p0 p1 => ⟨fun j j0 j1 => ?_, ?_⟩))
    · rw [u2_j (by decide)]; exact s0
    · rw [u2_at, wnK_2, if_pos cw]
    · rw [u2_j (by decide)]; exact s3
    · rw [g1 _ _ (fun c => by omega)]
    · rw [g1 _ _ (fun c => by omega), wnK_4 p0, if_neg (by omega)]; exact (sp p p0 p1).2.2.2.2.2.2.2
