/-! ===== the model's noon ===== -/
def shK (I : PF) (k : Int) : PF := fun x y => if x = 348 ∧ 34 ≤ y ∧ y < k then I 348 (y + 3) else I x y
theorem shf_loop {X : CX} {d : Nat} {R : PF} {Q : PV → PF → PF → Prop} {I0 : PF} (hs : Shp R) (hQ : PN X d mX11_isKept 42 [(2, 306)] [] (shK I0 151) R Q) : ∀ (m : Nat) (k : Int), (151 - k).toNat < m → 34 ≤ k → k ≤ 151 → PN X d mX11_isKept 15 [(2, 306), (0, k)] [] (shK I0 k) R Q := by
  intro m
  induction m with
  | zero => intro k h; exact absurd h (Nat.not_lt_zero _)
  | succ m ih =>
    intro k hm k0 k1
    refine S_X11_isKept_15 (by omega) (fun g => ?_) (fun g => ?_)
    · rw [show k = 151 by omega]; exact hQ
    · refine S_X11_isKept_22 hs (by omega) (by omega) ?_
      have e : u2 (shK I0 k) 348 k (shK I0 k 348 (k + 3)) = shK I0 (k + 1) := by
        funext x y
        unfold u2 shK
        by_cases c : x = 348 ∧ y = k
        · obtain ⟨c1, c2⟩ := c
          subst c1
          subst c2
          rw [if_pos ⟨rfl, rfl⟩, if_neg (by omega), if_pos ⟨rfl, by omega, by omega⟩]
        · rw [if_neg c]
          by_cases c2 : x = 348 ∧ 34 ≤ y ∧ y < k
          · rw [if_pos c2, if_pos ⟨c2.1, c2.2.1, by omega⟩]
          · rw [if_neg c2, if_neg (fun k => c2 ⟨k.1, k.2.1, by omega⟩)]
      rw [e]
      exact ih (k + 1) (by omega) (by omega) (by omega)
theorem c_isKept {X : CX} {I R : PF} {b : Int} (hs : Shp R) (hc : 0 ≤ I 348 33 ∧ I 348 33 ≤ 40) (hw : inR (I 348 1)) (hb : I 306 70 = b) : CN X 0 mX11_isKept [(2, 306)] I R (fun _ I' R' => I' = kpK I b ∧ R' = R) := by
  refine callee_b (by decide +kernel) (Nat.le_of_ble_eq_true rfl) rfl ?_
  -- behind the shift
  have fin : ∀ (J : PF) (c : Int), J 348 33 = c → 1 ≤ c → c ≤ 40 → J 306 70 = b → J 348 1 = I 348 1 → (u2 (u2 (u2 J 348 (34 + 3 * c - 3) (J 348 0)) 348 (34 + 3 * c - 3 + 1) (if I 348 1 = -1 then 255 else I 348 1)) 348 (34 + 3 * c - 3 + 2) b = kpK I b) → PN X 0 mX11_isKept 56 [(2, 306)] [] J R (fun _ I' R' => I' = kpK I b ∧ R' = R) := fun J c h33 c1 c2 h70 h1 he => by
    rw [← h33] at c1 c2 he
    have g1 : FR (fun x y => x = 348 ∧ y = 34 + 3 * J 348 33 - 3) J (u2 J 348 (34 + 3 * J 348 33 - 3) (J 348 0)) := FR_u2 ⟨rfl, rfl⟩
    have e1 : u2 J 348 (34 + 3 * J 348 33 - 3) (J 348 0) 348 1 = I 348 1 := by rw [g1 _ _ (fun c => by omega)]; exact h1
    have e70 : ∀ w, u2 (u2 J 348 (34 + 3 * J 348 33 - 3) (J 348 0)) 348 (34 + 3 * J 348 33 - 3 + 1) w 306 70 = b := fun w => by rw [u2_o (by decide), u2_o (by decide)]; exact h70
    refine S_X11_isKept_56 hs (by omega) (by rw [e1]; exact hw) (fun g => ?_) (fun g => ?_)
    · rw [e1] at g
      refine S_X11_isKept_106 hs (S_X11_isKept_112 hs (by omega) (by omega) ⟨?_, rfl⟩)
      rw [e70, e1, ← he, if_neg g]
    · rw [e1] at g
      refine S_X11_isKept_100 (S_X11_isKept_112 hs (by omega) (by omega) ⟨?_, rfl⟩)
      rw [e70, ← he, if_pos g]
  refine S_X11_isKept_0 hs (by omega) (fun g => ?_) (fun g => ?_)
  · refine S_X11_isKept_45 hs (fin _ (I 348 33 + 1) u2_at (by omega) (by omega) (by rw [u2_o (by decide)]; exact hb) (by rw [u2_j (by decide)]) ?_)
    funext x y
    unfold kpK u2
    generalize (if I 348 1 = -1 then (255 : Int) else I 348 1) = v
    by_cases cx : x = 348
    · subst cx
      simp only [true_and, if_true, if_neg g]
      by_cases c3 : y = 34 + 3 * I 348 33 + 2
      · rw [if_pos (by omega), if_neg (by omega), if_neg (by omega), if_neg (by omega), if_pos c3]
      · rw [if_neg (by omega)]
        by_cases c2 : y = 34 + 3 * I 348 33 + 1
        · rw [if_pos (by omega), if_neg (by omega), if_neg (by omega), if_pos c2]
        · rw [if_neg (by omega)]
          by_cases c1 : y = 34 + 3 * I 348 33
          · rw [if_pos (by omega), if_neg (by decide), if_neg (by omega), if_pos c1]
          · rw [if_neg (by omega)]
            by_cases c0 : y = 33
            · rw [if_pos c0, if_pos c0]
            · rw [if_neg c0, if_neg c0, if_neg c1, if_neg c2, if_neg c3]
    · simp only [cx, false_and, if_false]
  · refine S_X11_isKept_12 ?_
    have e34 : I = shK I 34 := by
      funext x y
      unfold shK
      rw [if_neg (by omega)]
    have main : PN X 0 mX11_isKept 15 [(2, 306), (0, 34)] [] (shK I 34) R (fun _ I' R' => I' = kpK I b ∧ R' = R) := by
      refine shf_loop hs (S_X11_isKept_42 (fin _ 40 ?_ (by decide) (by decide) ?_ ?_ ?_)) _ 34 (Nat.lt_succ_self _) (by decide) (by decide)
      · unfold shK; rw [if_neg (by omega)]; exact g
      · unfold shK; rw [if_neg (by omega)]; exact hb
      · unfold shK; rw [if_neg (by omega)]
      · funext x y
        unfold kpK u2 shK
        generalize (if I 348 1 = -1 then (255 : Int) else I 348 1) = v
        by_cases cx : x = 348
        · subst cx
          simp only [true_and, if_true, if_pos g]
          by_cases c3 : y = 153
          · rw [if_pos (by omega), if_neg (by omega), if_neg (by omega), if_neg (by omega), if_pos c3]
          · rw [if_neg (by omega)]
            by_cases c2 : y = 152
            · rw [if_pos (by omega), if_neg (by omega), if_neg (by omega), if_pos c2]
            · rw [if_neg (by omega)]
              by_cases c1 : y = 151
              · rw [if_pos (by omega), if_neg (by decide), if_neg (by omega), if_pos c1]
              · rw [if_neg (by omega)]
                by_cases c0 : 34 ≤ y ∧ y < 151
                · rw [if_pos c0, if_pos c0]
                · rw [if_neg c0, if_neg c0, if_neg c1, if_neg c2, if_neg c3]
        · simp only [cx, false_and, if_false]
    rw [← e34] at main
    exact main
theorem nxK_348 {kp : Bool} {K K' : PF} (h : K 348 = K' 348) (w b : Int) : nxK kp K w b 348 = nxK kp K' w b 348 := by
  have h1 : wnK K w 348 = wnK K' w 348 := by funext y; unfold wnK; rw [h]
  have h2 : kpK (wnK K w) b 348 = kpK (wnK K' w) b 348 := by funext y; unfold kpK; rw [h1]
  unfold nxK inK
  cases kp with
  | false => show u2 (wnK K w) 348 0 (wnK K w 348 0 + 1) 348 = u2 (wnK K' w) 348 0 (wnK K' w 348 0 + 1) 348; funext y; unfold u2; rw [h1]
  | true => show u2 (kpK (wnK K w) b) 348 0 (kpK (wnK K w) b 348 0 + 1) 348 = u2 (kpK (wnK K' w) b) 348 0 (kpK (wnK K' w) b 348 0 + 1) 348; funext y; unfold u2; rw [h2]
theorem nxK_33 {kp : Bool} {K : PF} {w b : Int} (h : 0 ≤ K 348 33 ∧ K 348 33 ≤ 40) (hw : w < 6) : 0 ≤ nxK kp K w b 348 33 ∧ nxK kp K w b 348 33 ≤ 40 := by
  have e : wnK K w 348 33 = K 348 33 := by unfold wnK; rw [if_pos rfl, if_neg (by decide), if_neg (by decide), if_neg (by omega)]
  unfold nxK inK
  rw [u2_j (by decide)]
  cases kp with
  | false => show 0 ≤ wnK K w 348 33 ∧ wnK K w 348 33 ≤ 40; rw [e]; exact h
  | true =>
    show 0 ≤ kpK (wnK K w) b 348 33 ∧ kpK (wnK K w) b 348 33 ≤ 40
    unfold kpK
    rw [if_pos rfl, e]
    by_cases c : K 348 33 = 40
    · rw [if_pos c, if_neg (by decide), if_neg (by decide), if_neg (by decide), if_neg (by decide)]; exact h
    · rw [if_neg c, if_pos rfl]; omega
def mNo (x y : Int) : Prop := mGo x y ∨ x = 348
theorem ST.go {D I I' : PF} (h : ST D I) (f : FR mNo I I') : ST D I' := by
  obtain ⟨h1, h2, h3, h4, h5, h6, h7, h8, h9⟩ := h
  have e : ∀ x y, ¬ mNo x y → I' x y = I x y := f
  refine ⟨by rw [e _ _ (fun c => by unfold mNo mGo mFl at c; omega)]; exact h1, fun j j0 j1 => ?_, fun j j0 j1 => ?_, fun j j0 j1 => ?_, fun j j0 j1 => ?_, fun j j0 j1 => ?_, by rw [e _ _ (fun c => by unfold mNo mGo mFl at c; omega)]; exact h7, fun j j0 j1 => ?_, fun j j0 j1 => ?_⟩
  · rw [e _ _ (fun c => by unfold mNo mGo mFl at c; omega)]; exact h2 j j0 j1
  · rw [e _ _ (fun c => by unfold mNo mGo mFl at c; omega)]; exact h3 j j0 j1
  · rw [e _ _ (fun c => by unfold mNo mGo mFl at c; omega)]; exact h4 j j0 j1
  · rw [e _ _ (fun c => by unfold mNo mGo mFl at c; omega)]; exact h5 j j0 j1
  · rw [e _ _ (fun c => by unfold mNo mGo mFl at c; omega)]; exact h6 j j0 j1
  · rw [e _ _ (fun c => by unfold mNo mGo mFl at c; omega), e 346 _ (fun c => by unfold mNo mGo mFl at c; omega)]; exact h8 j j0 j1
  · rw [e _ _ (fun c => by unfold mNo mGo mFl at c; omega)]; exact h9 j j0 j1
theorem ST.fl {D I K : PF} (h : ST D I) (h2 : I 342 = K 342) (h8 : I 348 = K 348) : FlM D K (I 306 61) I := ⟨h.sq, h.cod, h2, h8, rfl⟩
theorem c_noonGoes {X : CX} {I R : PF} {kp : Bool} {D K : PF} {dr sd gm : Int} (hs : Shp R) (hT : ST D I) (h2 : I 342 = K 342) (h8 : I 348 = K 348) (hkp : I 306 72 = if kp then 0 else 1) (hdr : dr = 0 ∨ dr = 1) (hG : GD D) (hW : WD D) (hK : KG D K) (h33 : 0 ≤ K 348 33 ∧ K 348 33 ≤ 40) (hsd : I 306 78 = sd) (hsr : sdR sd) (hgm : I 306 71 = gm) :
    CN X 6 mX11_noonGoes [(2, 306), (0, dr)] I R (fun _ I' R' => I' 348 = nxK kp K (nnR D K dr sd gm).1 (nnR D K dr sd gm).2.1 348 ∧ I' 306 78 = (nnR D K dr sd gm).2.2.2.1 ∧ I' 306 71 = (nnR D K dr sd gm).2.2.2.2 ∧ FR mNo I I' ∧ R' = R) := by
  refine callee_b (by decide +kernel) (Nat.le_of_ble_eq_true rfl) rfl ?_
  have hD := hG.2.1
  have k1 := hK.1
  have k2 := hK.2.1
  have hbn : bd (K 348 0) := by unfold bd; omega
  obtain ⟨⟨w0, w1⟩, f0, f1⟩ := hK.wf
  have e341 : ∀ j, 0 ≤ j → j < 5 → I 341 (5 + j) = D 341 j := hT.2.2.2.1
  -- the flight and what follows
  have go : ∀ x2, x2 = K 348 1 → PN X 6 mX11_noonGoes 50 [(2, 306), (0, dr), (0, x2)] [(0, fcK K), (0, wyK K), (2, 306)] I R (fun _ I' R' => I' 348 = nxK kp K (nnR D K dr sd gm).1 (nnR D K dr sd gm).2.1 348 ∧ I' 306 78 = (nnR D K dr sd gm).2.2.2.1 ∧ I' 306 71 = (nnR D K dr sd gm).2.2.2.2 ∧ FR mNo I I' ∧ R' = R) := fun x2 hx2 => by
    refine S_X11_noonGoes_50 (d1 := 5) hs (by omega) (c_goes (K := K) hs (hT.fl h2 h8) ⟨e341 2 (by decide) (by decide), e341 3 (by decide) (by decide), e341 4 (by decide) (by decide)⟩ hT.2.2.2.2.2.2.1 hG hW (hK.kb hG) hK.2.2.2.1 (by rw [h8]; exact hbn) (by rcases hdr with rfl | rfl <;> decide) ⟨w0, w1⟩ ⟨f0, f1⟩ (by rw [hsd]; exact hsr)) (fun z I1 R1 q => ?_)
    obtain ⟨hE, f, rfl⟩ := q
    rw [hsd, hgm, show I 348 0 = K 348 0 by rw [h8]] at hE
    have hE' : EndM (nnR D K dr sd gm) I1 := hE
    have wr : -1 ≤ (nnR D K dr sd gm).1 ∧ (nnR D K dr sd gm).1 < D 339 1 := (flyR_r (by omega) _ _ _ _ _ _).1
    generalize nnR D K dr sd gm = r at hE' wr
    obtain ⟨who, beat, hat, s', g'⟩ := r
    obtain ⟨(e1 : I1 306 69 = who), (e2 : I1 306 70 = beat), -, -, (e5 : I1 306 78 = s'), (e6 : I1 306 71 = g')⟩ := hE'
    have wr : -1 ≤ who ∧ who < D 339 1 := wr
    have e8 : I1 348 = K 348 := by rw [← h8]; funext y; exact f _ _ (fun c => by unfold mGo mFl at c; omega)
    have e72 : I1 306 72 = if kp then 0 else 1 := by rw [f _ _ (fun c => by unfold mGo mFl at c; omega)]; exact hkp
    -- the end
    have fin : ∀ J : PF, u2 J 348 1 who = wnK I1 who → PN X 6 mX11_noonGoes 153 [(2, 306)] [] J R1 (fun _ I' R' => I' 348 = nxK kp K who beat 348 ∧ I' 306 78 = s' ∧ I' 306 71 = g' ∧ FR mNo I I' ∧ R' = R1) := fun J hJ => by
      have j69 : J 306 69 = who := by
        have := congrFun (congrFun hJ 306) 69
        rw [u2_o (by decide)] at this
        rw [this]; unfold wnK; rw [if_neg (by decide)]; exact e1
      have j72 : (wnK I1 who) 306 72 = if kp then 0 else 1 := by unfold wnK; rw [if_neg (by decide)]; exact e72
      have j70 : (wnK I1 who) 306 70 = beat := by unfold wnK; rw [if_neg (by decide)]; exact e2
      have j33 : (wnK I1 who) 348 33 = K 348 33 := by unfold wnK; rw [if_pos rfl, if_neg (by decide), if_neg (by decide), if_neg (by omega), e8]
      have post : ∀ L : PF, u2 L 348 0 (L 348 0 + 1) = nxK kp I1 who beat → PN X 6 mX11_noonGoes 174 [(2, 306)] [] L R1 (fun _ I' R' => I' 348 = nxK kp K who beat 348 ∧ I' 306 78 = s' ∧ I' 306 71 = g' ∧ FR mNo I I' ∧ R' = R1) := fun L hL => by
        refine S_X11_noonGoes_174 hs ?_
        rw [hL]
        refine ⟨nxK_348 e8 who beat, ?_, ?_, fun x y c => ?_, rfl⟩
        · rw [nxK_x (by decide)]; exact e5
        · rw [nxK_x (by decide)]; exact e6
        · rw [nxK_x (fun k => c (Or.inr k))]; exact f x y (fun k => c (Or.inl k))
      refine S_X11_noonGoes_153 hs ?_ (fun g => ?_) (fun g => ?_)
      · rw [j69, hJ, j72]; cases kp <;> decide
      · rw [j69, hJ] at g ⊢
        rw [j72] at g
        have : kp = false := by cases kp with
          | false => rfl
          | true => exact absurd rfl g
        subst this
        exact post _ rfl
      · rw [j69, hJ] at g ⊢
        rw [j72] at g
        have : kp = true := by cases kp with
          | true => rfl
          | false => exact absurd g (by decide)
        subst this
        refine S_X11_noonGoes_170 (d1 := 0) (by omega) (c_isKept hs (by rw [j33]; exact h33) (by rw [wnK_1]; unfold inR; omega) j70) (fun z2 I2 R2 q => ?_)
        obtain ⟨rfl, rfl⟩ := q
        exact post _ rfl
    refine S_X11_noonGoes_60 (by rw [e1]; omega) (fun g => ?_) (fun g => ?_)
    · rw [e1] at g
      have hw6 : 0 ≤ who ∧ who < 6 := by omega
      obtain ⟨-, -, -, -, -, a6⟩ := hK.2.2.2.2.2 who hw6.1 wr.2
      have at119 : ∀ v, v = wnK I1 who 348 2 → PN X 6 mX11_noonGoes 119 [(2, 306)] [(0, v), (0, 2), (2, 348)] I1 R1 (fun _ I' R' => I' 348 = nxK kp K who beat 348 ∧ I' 306 78 = s' ∧ I' 306 71 = g' ∧ FR mNo I I' ∧ R' = R1) := fun v hv => by
        have e9 : u2 I1 348 2 v 306 69 = who := by rw [u2_o (by decide)]; exact e1
        have ew : u2 I1 348 2 v 348 (3 + 5 * who + 4) = K 348 (3 + 5 * who + 4) := by rw [u2_j (by omega), e8]
        refine S_X11_noonGoes_119 (d1 := 0) (by decide) (by omega) (Q1 := fun v2 I' R' => v2.2 = K 348 (3 + 5 * who + 4) ∧ I' = u2 I1 348 2 v ∧ R' = R1) (by
          rw [e9]
          exact callee_b (by decide +kernel) (Nat.le_of_ble_eq_true rfl) rfl (S_X11_woreBy_0 hs (by omega) ⟨ew, rfl, rfl⟩)) (fun z2 I2 R2 q => ?_)
        obtain ⟨(hz2 : z2 = _), rfl, rfl⟩ := q
        have base : ∀ x y, ¬ (x = 348 ∧ (y = 1 ∨ y = 2 ∨ y = 3 + 5 * who + 4)) → wnK I1 who x y = I1 x y := fun x y c => by
          unfold wnK
          by_cases cx : x = 348
          · rw [if_pos cx, if_neg (fun k => c ⟨cx, Or.inl k⟩), if_neg (fun k => c ⟨cx, Or.inr (Or.inl k)⟩), if_neg (fun k => c ⟨cx, Or.inr (Or.inr k.2)⟩), cx]
          · rw [if_neg cx]
        refine S_X11_noonGoes_128 (by omega) (fun g2 => fin _ ?_) (fun g2 => ?_)
        · funext x y
          unfold u2
          by_cases c1 : x = 348 ∧ y = 1
          · rw [if_pos c1, c1.1, c1.2, wnK_1]
          · rw [if_neg c1]
            by_cases c2 : x = 348 ∧ y = 2
            · rw [if_pos c2, c2.1, c2.2]; exact hv
            · rw [if_neg c2]
              by_cases c3 : x = 348 ∧ y = 3 + 5 * who + 4
              · rw [c3.1, c3.2, wnK_4 hw6.1, if_pos rfl, e8]; omega
              · rw [base x y (by omega)]
        · refine S_X11_noonGoes_134 hs (by rw [e9]; omega) ?_
          rw [e9, ew]
          refine fin _ ?_
          funext x y
          unfold u2
          by_cases c1 : x = 348 ∧ y = 1
          · rw [if_pos c1, c1.1, c1.2, wnK_1]
          · rw [if_neg c1]
            by_cases c3 : x = 348 ∧ y = 3 + 5 * who + 4
            · rw [if_pos c3, c3.1, c3.2, wnK_4 hw6.1, if_pos rfl, e8]; omega
            · rw [if_neg c3]
              by_cases c2 : x = 348 ∧ y = 2
              · rw [if_pos c2, c2.1, c2.2]; exact hv
              · rw [if_neg c2, base x y (by omega)]
      have k3 := hK.2.2.1
      have t2 : I1 348 2 = K 348 2 := by rw [e8]
      refine S_X11_noonGoes_78 hs (by rw [e1]; omega) (by omega) (fun g2 => ?_) (fun g2 => ?_)
      · rw [e1] at g2
        refine S_X11_noonGoes_95 hs (by omega) (fun g3 => ?_) (fun g3 => ?_)
        · refine S_X11_noonGoes_117 (at119 99 ?_)
          rw [wnK_2, if_neg g, e8, if_pos (by omega)]; omega
        · refine S_X11_noonGoes_106 hs (at119 _ ?_)
          rw [wnK_2, if_neg g, e8, if_pos (by omega)]; omega
      · rw [e1] at g2
        refine S_X11_noonGoes_91 (at119 1 ?_)
        rw [wnK_2, if_neg g, e8, if_neg (by omega)]
    · rw [e1] at g
      refine S_X11_noonGoes_68 hs (fin _ ?_)
      funext x y
      unfold u2 wnK
      by_cases cx : x = 348
      · subst cx
        simp only [true_and, if_true, g]
        by_cases c1 : y = 1
        · rw [if_pos c1, if_pos c1]
        · rw [if_neg c1, if_neg c1]
          by_cases c2 : y = 2
          · rw [if_pos c2, if_pos c2]
          · rw [if_neg c2, if_neg c2, if_neg (fun k => k.1 rfl)]
      · simp only [cx, false_and, if_false]
  have e81 : I 348 1 = K 348 1 := by rw [h8]
  refine S_X11_noonGoes_0 hs (by omega) (fun g => ?_) (fun g => ?_)
  · rw [e81] at g ⊢
    refine S_X11_noonGoes_17 hs (by omega) (S_X11_noonGoes_29 (by omega) (fun g2 => ?_) (fun g2 => absurd g2 g))
    refine S_X11_noonGoes_38 hs (by omega) ?_
    have := go (K 348 1) rfl
    rw [show wyK K = I 348 (3 + 5 * K 348 1 + 2) by unfold wyK; rw [if_neg g, h8], show fcK K = I 348 (3 + 5 * K 348 1 + 3) by unfold fcK; rw [if_neg g, h8]] at this
    exact this
  · rw [e81] at g ⊢
    refine S_X11_noonGoes_13 (S_X11_noonGoes_29 (by omega) (fun g2 => absurd g g2) (fun _ => ?_))
    refine S_X11_noonGoes_34 ?_
    have := go (K 348 1) rfl
    rw [show wyK K = 0 by unfold wyK; rw [if_pos g], show fcK K = 0 by unfold fcK; rw [if_pos g]] at this
    exact this
