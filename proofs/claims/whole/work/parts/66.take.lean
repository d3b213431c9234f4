/-! ===== the class's scan: asks and takes ===== -/
theorem wL_1 (v : Int) : ∀ k : Nat, wL v k = 1 ∨ sW 0 (wL v k) = v
  | 0 => Or.inl rfl
  | k + 1 => by
    unfold wL
    split
    · rename_i h; exact Or.inr h
    · exact wL_1 v k
theorem wL_r (v : Int) : ∀ k : Nat, 1 ≤ wL v k ∧ wL v k ≤ max 1 (k : Int)
  | 0 => ⟨Int.le_refl _, by show (1 : Int) ≤ max 1 ((0 : Nat) : Int); omega⟩
  | k + 1 => by
    have := wL_r v k
    unfold wL
    split <;> omega
theorem wL_sW : ∀ w < 38, 2 ≤ w → wL (sW 0 ((w : Nat) : Int)) 37 = ((w : Nat) : Int) ∧ sW 0 ((w : Nat) : Int) ≠ 0 := by decide +kernel
theorem wL_iff {v w : Int} (hw : 2 ≤ w ∧ w ≤ 37) : wL v 37 = w ↔ v = sW 0 w := by
  obtain ⟨k, rfl⟩ : ∃ k : Nat, w = k := ⟨w.toNat, by omega⟩
  constructor
  · intro h
    rcases wL_1 v 37 with g | g
    · omega
    · rw [h] at g; exact g.symm
  · intro h; rw [h]; exact (wL_sW k (by omega) (by omega)).1
theorem sW_ne {w : Int} (hw : 2 ≤ w ∧ w ≤ 37) : sW 0 w ≠ 0 := by
  obtain ⟨k, rfl⟩ : ∃ k : Nat, w = k := ⟨w.toNat, by omega⟩
  exact (wL_sW k (by omega) (by omega)).2
theorem ow_w : ∀ v ∈ ow5, sW 1 (wL v 37) ≠ 0 := by decide +kernel
theorem w_ow : ∀ w < 38, 1 ≤ w → sW 1 ((w : Nat) : Int) ≠ 0 → sW 0 ((w : Nat) : Int) ∈ ow5 := by decide +kernel
theorem knd_1 {t : Int → Int} {n : Int} {q : Int × Bool} : knd t n q = 1 ↔ isW t n q := by
  unfold knd
  constructor
  · intro h
    by_cases g1 : skp t n q.1 < n
    · rw [if_pos g1] at h
      by_cases g2 : isL (t (skp t n q.1)) = true
      · rw [if_pos g2] at h
        by_cases g3 : q.2 = true ∧ skp t n q.1 = q.1
        · rw [if_pos g3] at h; omega
        · exact ⟨g1, g2, g3⟩
      · rw [if_neg g2] at h; repeat' split at h
        all_goals omega
    · rw [if_neg g1] at h; omega
  · intro h; rw [if_pos h.1, if_pos h.2.1, if_neg h.2.2]
theorem isL_D {c : Int} (h : isD c = true) : ¬ isL c = true := fun g => by have := isL_iff.mp g; have := isD_iff.mp h; omega
theorem knd_2 {t : Int → Int} {n : Int} {q : Int × Bool} : knd t n q = 2 ↔ isNb t n q := by
  unfold knd
  constructor
  · intro h
    by_cases g1 : skp t n q.1 < n
    · rw [if_pos g1] at h
      by_cases g2 : isL (t (skp t n q.1)) = true
      · rw [if_pos g2] at h; repeat' split at h
        all_goals omega
      · rw [if_neg g2] at h
        by_cases g4 : isD (t (skp t n q.1)) = true
        · rw [if_pos g4] at h
          by_cases g3 : q.2 = true ∧ skp t n q.1 = q.1
          · rw [if_pos g3] at h; omega
          · exact ⟨g1, g4, g3⟩
        · rw [if_neg g4] at h; omega
    · rw [if_neg g1] at h; omega
  · intro h; rw [if_pos h.1, if_neg (isL_D h.2.1), if_pos h.2.1, if_neg h.2.2]
theorem knd_r (t : Int → Int) (n : Int) (q : Int × Bool) : 0 ≤ knd t n q ∧ knd t n q ≤ 4 := by
  unfold knd; repeat' split <;> omega
theorem knd_0 {t : Int → Int} {n : Int} {q : Int × Bool} (h : ∀ j, 0 ≤ j → j < 1600 → 0 ≤ t j ∧ t j ≤ 255) (h0 : 0 ≤ q.1) (hn : n ≤ 1600) : knd t n q = 0 ↔ nxt t n (.inl q) = -1 := by
  have s1 := skp_ge t n q.1
  unfold knd
  show _ ↔ lkv t n _ = -1
  unfold lkv
  constructor
  · intro e
    by_cases g1 : skp t n q.1 < n
    · rw [if_pos g1] at e; repeat' split at e
      all_goals omega
    · rw [if_neg g1]
  · intro e
    by_cases g1 : skp t n q.1 < n
    · rw [if_pos g1] at e; have := h (skp t n q.1) (by omega) (by omega); omega
    · rw [if_neg g1]
def sgn (c : Int) : Prop := 0 ≤ c ∧ ¬ (97 ≤ c ∧ c ≤ 122) ∧ ¬ (48 ≤ c ∧ c ≤ 57)
theorem knd_3 {t : Int → Int} {n c : Int} {q : Int × Bool} (hc : sgn c) : (knd t n q = 3 ∧ tva t n (skp t n q.1) = c) ↔ nxt t n (.inl q) = c := by
  unfold knd tva
  show _ ↔ lkv t n _ = c
  unfold lkv
  by_cases g1 : skp t n q.1 < n
  · rw [if_pos g1, if_pos g1, if_pos g1]
    by_cases g2 : isL (t (skp t n q.1)) = true
    · rw [if_pos g2, if_pos g2]
      have := isL_iff.mp g2
      constructor
      · intro h
        by_cases g3 : q.2 = true ∧ skp t n q.1 = q.1
        · rw [if_pos g3] at h; omega
        · rw [if_neg g3] at h; omega
      · intro h; exact absurd this (by rw [h]; exact hc.2.1)
    · rw [if_neg g2, if_neg g2]
      by_cases g4 : isD (t (skp t n q.1)) = true
      · rw [if_pos g4, if_pos g4]
        have := isD_iff.mp g4
        constructor
        · intro h
          by_cases g3 : q.2 = true ∧ skp t n q.1 = q.1
          · rw [if_pos g3] at h; omega
          · rw [if_neg g3] at h; omega
        · intro h; exact absurd this (by rw [h]; exact hc.2.2)
      · rw [if_neg g4, if_neg g4]
        exact ⟨fun h => h.2, fun h => ⟨rfl, h⟩⟩
  · rw [if_neg g1, if_neg g1, if_neg g1]
    exact ⟨fun h => by omega, fun h => by have := hc.1; omega⟩
theorem twd_r (t : Int → Int) (n a : Int) : 1 ≤ twd t n a ∧ twd t n a ≤ 37 := by
  have := wL_r (tva t n a) 37
  unfold twd; repeat' split
  all_goals omega
theorem tok_word {t : Int → Int} {n w : Int} {q : Int × Bool} (hw : 2 ≤ w ∧ w ≤ 37) : (knd t n q = 1 ∧ twd t n (skp t n q.1) = w) ↔ tw t n (.inl q) = sW 0 w := by
  rw [knd_1]
  show _ ↔ (if isW t n q ∧ lenW t n q ≤ 6 then cdW t n q else 0) = sW 0 w
  have h0 := sW_ne hw
  by_cases g : isW t n q
  · unfold twd
    rw [if_pos g.1, if_pos g.2.1]
    by_cases g2 : lenW t n q ≤ 6
    · have g2' : run isL t n (skp t n q.1) - skp t n q.1 ≤ 6 := g2
      rw [if_pos g2', if_pos ⟨g, g2⟩, wL_iff hw]
      have e : tva t n (skp t n q.1) = cdW t n q := by unfold tva; rw [if_pos g.1, if_pos g.2.1]; rfl
      rw [e]
      exact ⟨fun h => h.2, fun h => ⟨g, h⟩⟩
    · have g2' : ¬ run isL t n (skp t n q.1) - skp t n q.1 ≤ 6 := g2
      rw [if_neg g2', if_neg (fun c => g2 c.2)]
      exact ⟨fun h => by omega, fun h => absurd h.symm h0⟩
  · rw [if_neg (fun c => g c.1)]
    exact ⟨fun h => absurd h.1 g, fun h => absurd h.symm h0⟩
theorem tok_own {t : Int → Int} {n : Int} {q : Int × Bool} (g : isW t n q) : sW 1 (twd t n (skp t n q.1)) ≠ 0 ↔ tw t n (.inl q) ∈ ow5 := by
  show _ ↔ (if isW t n q ∧ lenW t n q ≤ 6 then cdW t n q else 0) ∈ ow5
  unfold twd
  rw [if_pos g.1, if_pos g.2.1]
  by_cases g2 : lenW t n q ≤ 6
  · have g2' : run isL t n (skp t n q.1) - skp t n q.1 ≤ 6 := g2
    rw [if_pos g2', if_pos ⟨g, g2⟩]
    have e : tva t n (skp t n q.1) = cdW t n q := by unfold tva; rw [if_pos g.1, if_pos g.2.1]; rfl
    rw [e]
    constructor
    · intro h
      have r := wL_r (cdW t n q) 37
      rcases wL_1 (cdW t n q) 37 with h1 | h1
      · rw [h1] at h; exact absurd rfl h
      · obtain ⟨k, hk⟩ : ∃ k : Nat, wL (cdW t n q) 37 = k := ⟨(wL (cdW t n q) 37).toNat, by omega⟩
        rw [hk] at h h1 r
        rw [← h1]
        exact w_ow k (by omega) (by omega) h
    · exact fun h => ow_w _ h
  · have g2' : ¬ run isL t n (skp t n q.1) - skp t n q.1 ≤ 6 := g2
    rw [if_neg g2', if_neg (fun c => g2 c.2)]
    exact ⟨fun h => absurd rfl h, fun h => absurd h (by decide)⟩
/-- the class's scan stands behind q, or at its first fault -/
def DSt (t : Int → Int) (n : Int) (s : SA) (I R : PF) : Prop := match s with
  | .inl q => Tok t n q I R ∧ I 67 8 = 0 ∧ I 67 9 = -1
  | .inr f => DT t n I ∧ I 67 8 = f.1 ∧ f.1 ≠ 0 ∧ I 67 9 = f.2
def sF (x y : Int) : Prop := x = 67 ∧ 2 ≤ y ∧ y ≤ 9
theorem sS_F {I J : PF} (h : FR sS I J) : FR sF I J := h.mono (fun x y c => ⟨c.1, c.2.1, by have := c.2.2; omega⟩)
theorem Tok.r2 {t : Int → Int} {n : Int} {q : Int × Bool} {I R : PF} (h : Tok t n q I R) : inR (I 67 2) := by
  have := knd_r t n q
  rw [h.2.2.2.2.1]; omega
theorem Tok.r3 {t : Int → Int} {n : Int} {q : Int × Bool} {I R : PF} (h : Tok t n q I R) : 0 ≤ I 67 3 ∧ I 67 3 ≤ 1600 := by
  have := skp_ge t n q.1
  have := skp_le (t := t) h.2.2.1
  have := h.1.2.2.2.1
  have := h.2.1
  rw [h.2.2.2.1]; omega
theorem c_isWord {X : CX} {I R : PF} {t : Int → Int} {n w : Int} {q : Int × Bool} (h : Tok t n q I R) (hw : 2 ≤ w ∧ w ≤ 37) : CN X 0 mX5_isWord [(2, 67), (2, w)] I R (fun v I' R' => v.2 = bi (tw t n (.inl q) = sW 0 w) ∧ I' = I ∧ R' = R) := by
  refine callee_b (by decide +kernel) (Nat.le_of_ble_eq_true rfl) rfl ?_
  have hk := h.2.2.2.2.1
  have hr := h.2.2.2.2.2.2.2
  have tr := twd_r t n (skp t n q.1)
  refine S_X5_isWord_0 h.r2 (fun g => ?_) (fun g => ?_)
  · exact S_X5_isWord_20 (S_X5_isWord_21 (by decide) ⟨(bi_f (fun c => g (hk.trans ((tok_word hw).mpr c).1))).symm, rfl, rfl⟩)
  · refine S_X5_isWord_8 hr (by omega) (by omega) (fun g2 => ?_) (fun g2 => ?_)
    · exact S_X5_isWord_20 (S_X5_isWord_21 (by decide) ⟨(bi_f (fun c => g2 ((tok_word hw).mpr c).2)).symm, rfl, rfl⟩)
    · exact S_X5_isWord_16 (S_X5_isWord_21 (by decide) ⟨(bi_t ((tok_word hw).mp ⟨hk.symm.trans g, g2⟩)).symm, rfl, rfl⟩)
theorem Tok.r5 {t : Int → Int} {n : Int} {q : Int × Bool} {I R : PF} (h : Tok t n q I R) (hk : I 67 2 = 3) : 0 ≤ I 67 5 ∧ I 67 5 ≤ 255 := by
  have s1 := skp_ge t n q.1
  have q0 := h.2.1
  have hn := h.1.2.2.2.1
  have h2 : knd t n q = 3 := h.2.2.2.2.1.symm.trans hk
  rw [h.2.2.2.2.2.2.1]
  unfold knd at h2
  by_cases g1 : skp t n q.1 < n
  · rw [if_pos g1] at h2
    by_cases g2 : isL (t (skp t n q.1)) = true
    · rw [if_pos g2] at h2; split at h2 <;> omega
    · rw [if_neg g2] at h2
      by_cases g4 : isD (t (skp t n q.1)) = true
      · rw [if_pos g4] at h2; split at h2 <;> omega
      · unfold tva; rw [if_pos g1, if_neg g2, if_neg g4]
        exact h.1.2.2.2.2 _ (by omega) (by omega)
  · rw [if_neg g1] at h2; omega
theorem c_isSign {X : CX} {I R : PF} {t : Int → Int} {n c : Int} {q : Int × Bool} (h : Tok t n q I R) (hc : sgn c) (hr : inR c) : CN X 0 mX5_isSign [(2, 67), (0, c)] I R (fun v I' R' => v.2 = bi (nxt t n (.inl q) = c) ∧ I' = I ∧ R' = R) := by
  refine callee_b (by decide +kernel) (Nat.le_of_ble_eq_true rfl) rfl ?_
  have hk := h.2.2.2.2.1
  have hv := h.2.2.2.2.2.2.1
  refine S_X5_isSign_0 h.r2 (fun g => ?_) (fun g => ?_)
  · exact S_X5_isSign_20 (S_X5_isSign_21 (by decide) ⟨(bi_f (fun e => g (hk.trans ((knd_3 hc).mpr e).1))).symm, rfl, rfl⟩)
  · have r5 := h.r5 g
    refine S_X5_isSign_8 (by omega) hr (fun g2 => ?_) (fun g2 => ?_)
    · exact S_X5_isSign_20 (S_X5_isSign_21 (by decide) ⟨(bi_f (fun e => g2 (hv.trans ((knd_3 hc).mpr e).2))).symm, rfl, rfl⟩)
    · exact S_X5_isSign_16 (S_X5_isSign_21 (by decide) ⟨(bi_t ((knd_3 hc).mp ⟨hk.symm.trans g, hv.symm.trans g2⟩)).symm, rfl, rfl⟩)
theorem c_isAtEnd {X : CX} {I R : PF} {t : Int → Int} {n : Int} {q : Int × Bool} (h : Tok t n q I R) : CN X 0 mX5_isAtEnd [(2, 67)] I R (fun v I' R' => v.2 = bi (nxt t n (.inl q) = -1) ∧ I' = I ∧ R' = R) := by
  refine callee_b (by decide +kernel) (Nat.le_of_ble_eq_true rfl) rfl ?_
  have hk := h.2.2.2.2.1
  have k0 := knd_0 (q := q) (n := n) h.1.2.2.2.2 h.2.1 h.1.2.2.2.1
  refine S_X5_isAtEnd_0 h.r2 (fun g => ?_) (fun g => ?_)
  · exact S_X5_isAtEnd_11 (S_X5_isAtEnd_12 (by decide) ⟨(bi_f (fun e => g (hk.trans (k0.mpr e)))).symm, rfl, rfl⟩)
  · exact S_X5_isAtEnd_7 (S_X5_isAtEnd_12 (by decide) ⟨(bi_t (k0.mp (hk.symm.trans g))).symm, rfl, rfl⟩)
theorem c_isNumber {X : CX} {I R : PF} {t : Int → Int} {n : Int} {q : Int × Bool} (h : Tok t n q I R) : CN X 0 mX5_isNumber [(2, 67)] I R (fun v I' R' => v.2 = bi (isNb t n q) ∧ I' = I ∧ R' = R) := by
  refine callee_b (by decide +kernel) (Nat.le_of_ble_eq_true rfl) rfl ?_
  have hk := h.2.2.2.2.1
  refine S_X5_isNumber_0 h.r2 (fun g => ?_) (fun g => ?_)
  · exact S_X5_isNumber_12 (S_X5_isNumber_13 (by decide) ⟨(bi_f (fun e => g (hk.trans (knd_2.mpr e)))).symm, rfl, rfl⟩)
  · exact S_X5_isNumber_8 (S_X5_isNumber_13 (by decide) ⟨(bi_t (knd_2.mp (hk.symm.trans g))).symm, rfl, rfl⟩)
theorem c_refuse {X : CX} {I R : PF} {t : Int → Int} {n k a : Int} {q : Int × Bool} (h : DSt t n (.inl q) I R) (hk : k ≠ 0) : CN X 0 mX5_refuse [(2, 67), (0, k), (0, a)] I R (fun v I' R' => v.2 = 0 ∧ DSt t n (.inr (k, a)) I' R' ∧ FR sF I I' ∧ R' = R) := by
  refine callee_b (by decide +kernel) (Nat.le_of_ble_eq_true rfl) rfl ?_
  have h8 := h.2.1
  refine S_X5_refuse_0 (by omega) (fun g => absurd h8 g) (fun _ => ?_)
  have ff : FR sF I (u2 (u2 I 67 8 k) 67 9 a) := FR.tr (FR_u2 ⟨rfl, by decide⟩) (FR_u2 ⟨rfl, by decide⟩)
  refine S_X5_refuse_7 (S_X5_refuse_17 ⟨rfl, ⟨h.1.1.fr (ff.mono (fun x y c => ⟨c.1, c.2.1⟩)), ?_, hk, u2_at⟩, ff, rfl⟩)
  rw [u2_j (by decide), u2_at]
/-- behind the token that is next -/
def behT (t : Int → Int) (n : Int) (q : Int × Bool) : Int × Bool := (tto t n (skp t n q.1), decide (knd t n q = 1 ∨ knd t n q = 2))
theorem tto_r {t : Int → Int} {n a : Int} (h : a ≤ n) (h0 : 0 ≤ a) : 0 ≤ tto t n a ∧ tto t n a ≤ n := by
  have r1 := run_ge isL t n a
  have r2 := run_le (f := isL) (t := t) h
  have r3 := run_ge isD t n a
  have r4 := run_le (f := isD) (t := t) h
  unfold tto
  repeat' split
  all_goals omega
theorem c_adv {X : CX} {I R : PF} {t : Int → Int} {n : Int} {q : Int × Bool} (hs : Shp R) (h : DSt t n (.inl q) I R) :
    CN X 1 mX5_advance [(2, 67)] I R (fun _ I' R' => DSt t n (.inl (behT t n q)) I' R' ∧ I' 67 7 = skp t n q.1 ∧ FR sF I I' ∧ FR sR R R') := by
  obtain ⟨h1, h8, h9⟩ := h
  have r3 := h1.r3
  have sl := skp_le (t := t) h1.2.2.1
  have sg := skp_ge t n q.1
  have q0 := h1.2.1
  have tr := tto_r (t := t) sl (by omega)
  refine (c_advance hs h1.1 h1.2.2.2.2.2.1 tr h1.r2).mono (fun v I' R' p => ?_)
  obtain ⟨p1, p2, p3, p4⟩ := p
  rw [h1.2.2.2.2.1] at p1
  exact ⟨⟨p1, (p3 67 8 (fun c => by unfold sS at c; omega)).trans h8, (p3 67 9 (fun c => by unfold sS at c; omega)).trans h9⟩, p2.trans h1.2.2.2.1, sS_F p3, p4⟩
theorem behT_W {t : Int → Int} {n : Int} {q : Int × Bool} (h : isW t n q) : behT t n q = (run isL t n (skp t n q.1), true) := by
  unfold behT
  rw [decide_eq_true (Or.inl (knd_1.mpr h))]
  unfold tto
  rw [if_pos h.1, if_pos h.2.1]
theorem behT_N {t : Int → Int} {n : Int} {q : Int × Bool} (h : isNb t n q) : behT t n q = (run isD t n (skp t n q.1), true) := by
  unfold behT
  rw [decide_eq_true (Or.inr (knd_2.mpr h))]
  unfold tto
  rw [if_pos h.1, if_neg (isL_D h.2.1), if_pos h.2.1]
theorem behT_S {t : Int → Int} {n c : Int} {q : Int × Bool} (hc : sgn c) (h : nxt t n (.inl q) = c) : behT t n q = (skp t n q.1 + 1, false) := by
  have h3 := (knd_3 hc).mpr h
  have hn := lkv_n (t := t) (n := n) (a := skp t n q.1) h (by have := hc.1; omega)
  have e : t (skp t n q.1) = c := by
    have h' : lkv t n (skp t n q.1) = c := h
    unfold lkv at h'; rw [if_pos hn] at h'; exact h'
  unfold behT
  rw [decide_eq_false (by omega)]
  unfold tto
  rw [if_pos hn, if_neg (fun g => hc.2.1 (by have := isL_iff.mp g; omega)), if_neg (fun g => hc.2.2 (by have := isD_iff.mp g; omega))]
/-- from a word on -/
theorem c_advW {X : CX} {I R : PF} {t : Int → Int} {n c : Int} {q : Int × Bool} (hs : Shp R) (h : DSt t n (.inl q) I R) (hw : tw t n (.inl q) = c) (hc : c ≠ 0) :
    CN X 1 mX5_advance [(2, 67)] I R (fun _ I' R' => DSt t n (.inl (run isL t n (skp t n q.1), true)) I' R' ∧ I' 67 7 = skp t n q.1 ∧ FR sF I I' ∧ FR sR R R') := by
  rw [← behT_W (tw_w hw hc)]
  exact c_adv hs h
theorem c_advS {X : CX} {I R : PF} {t : Int → Int} {n c : Int} {q : Int × Bool} (hs : Shp R) (h : DSt t n (.inl q) I R) (hw : nxt t n (.inl q) = c) (hc : sgn c) :
    CN X 1 mX5_advance [(2, 67)] I R (fun _ I' R' => DSt t n (.inl (skp t n q.1 + 1, false)) I' R' ∧ I' 67 7 = skp t n q.1 ∧ FR sF I I' ∧ FR sR R R') := by
  rw [← behT_S hc hw]
  exact c_adv hs h
theorem c_takeWord {X : CX} {I R : PF} {t : Int → Int} {n w : Int} {q : Int × Bool} (hs : Shp R) (h : DSt t n (.inl q) I R) (hw : 2 ≤ w ∧ w ≤ 37) :
    CN X 2 mX5_takeWord [(2, 67), (2, w)] I R (fun v I' R' => v.2 = bi (tw t n (.inl q) = sW 0 w) ∧ DSt t n (askC t n (sW 0 w) (.inl q)) I' R' ∧ FR sF I I' ∧ FR sR R R') := by
  refine callee_b (by decide +kernel) (Nat.le_of_ble_eq_true rfl) rfl ?_
  refine S_X5_takeWord_0 (d1 := 0) (by omega) (c_isWord h.1 hw) (fun z I2 R2 q2 => ?_)
  obtain ⟨(hz : z = _), rfl, rfl⟩ := q2
  have h0 := sW_ne hw
  have br := bi_r (tw t n (.inl q) = sW 0 w)
  have e3 := h.1.2.2.2.1
  refine S_X5_takeWord_5 (by omega) (fun g => ?_) (fun g => ?_)
  · have g' := bi_1 (by rw [← hz]; exact g)
    refine S_X5_takeWord_18 (d1 := 1) (by omega) (c_advW hs h g' h0) (fun z I3 R3 q3 => ?_)
    obtain ⟨p1, p2, p3, p4⟩ := q3
    refine S_X5_takeWord_22 ⟨(bi_t g').symm, ?_, p3, p4⟩
    unfold askC; rw [if_pos g']; exact p1
  · have g' := bi_0 (hz.symm.trans g)
    refine S_X5_takeWord_8 (d1 := 0) (by omega) (c_refuse h (by decide)) (fun z I3 R3 q3 => ?_)
    obtain ⟨(p1 : z = 0), p2, p3, rfl⟩ := q3
    refine S_X5_takeWord_17 (by omega) ⟨p1.trans (bi_f g').symm, ?_, p3, FR.rf⟩
    rw [e3] at p2
    unfold askC; rw [if_neg g']; exact p2
theorem c_takeSign {X : CX} {I R : PF} {t : Int → Int} {n c : Int} {q : Int × Bool} (hs : Shp R) (h : DSt t n (.inl q) I R) (hc : sgn c) (hr : inR c) :
    CN X 2 mX5_takeSign [(2, 67), (0, c)] I R (fun v I' R' => v.2 = bi (nxt t n (.inl q) = c) ∧ DSt t n (askS t n c (.inl q)) I' R' ∧ FR sF I I' ∧ FR sR R R') := by
  refine callee_b (by decide +kernel) (Nat.le_of_ble_eq_true rfl) rfl ?_
  refine S_X5_takeSign_0 (d1 := 0) (by omega) (c_isSign h.1 hc hr) (fun z I2 R2 q2 => ?_)
  obtain ⟨(hz : z = _), rfl, rfl⟩ := q2
  have br := bi_r (nxt t n (.inl q) = c)
  have e3 := h.1.2.2.2.1
  refine S_X5_takeSign_5 (by omega) (fun g => ?_) (fun g => ?_)
  · have g' := bi_1 (by rw [← hz]; exact g)
    refine S_X5_takeSign_18 (d1 := 1) (by omega) (c_advS hs h g' hc) (fun z I3 R3 q3 => ?_)
    obtain ⟨p1, p2, p3, p4⟩ := q3
    refine S_X5_takeSign_22 ⟨(bi_t g').symm, ?_, p3, p4⟩
    unfold askS; rw [if_pos g']; exact p1
  · have g' := bi_0 (hz.symm.trans g)
    refine S_X5_takeSign_8 (d1 := 0) (by omega) (c_refuse h (by decide)) (fun z I3 R3 q3 => ?_)
    obtain ⟨(p1 : z = 0), p2, p3, rfl⟩ := q3
    refine S_X5_takeSign_17 (by omega) ⟨p1.trans (bi_f g').symm, ?_, p3, FR.rf⟩
    rw [e3] at p2
    unfold askS; rw [if_neg g']; exact p2
/-- a number is taken: its value, or -1 at fault -/
def NRes (t : Int → Int) (n lo hi : Int) (q : Int × Bool) (v : Int) (I R : PF) : Prop := match numS t n lo hi (.inl q) with
  | .inl q' => v = valN t n q ∧ lo ≤ v ∧ v ≤ hi ∧ I 67 7 = skp t n q.1 ∧ DSt t n (.inl q') I R
  | .inr f => v = -1 ∧ DSt t n (.inr f) I R
theorem c_takeNumber {X : CX} {I R : PF} {t : Int → Int} {n lo hi : Int} {q : Int × Bool} (hs : Shp R) (h : DSt t n (.inl q) I R) (hlo : inR lo) (hhi : inR hi) :
    CN X 2 mX5_takeNumber [(2, 67), (0, lo), (0, hi)] I R (fun v I' R' => NRes t n lo hi q v.2 I' R' ∧ FR sF I I' ∧ FR sR R R') := by
  refine callee_b (by decide +kernel) (Nat.le_of_ble_eq_true rfl) rfl ?_
  have e2 := h.1.2.2.2.2.1
  have e3 := h.1.2.2.2.1
  have e4 := h.1.2.2.2.2.2.1
  have e5 := h.1.2.2.2.2.2.2.1
  have q0 := h.1.2.1
  have hn := h.1.1.2.2.2.1
  have sg := skp_ge t n q.1
  have en : numS t n lo hi (.inl q) = if ¬ isNb t n q then .inr (1, skp t n q.1) else if 4 < lenN t n q then .inr (1, skp t n q.1 + 4) else if valN t n q < lo ∨ hi < valN t n q then .inr (2, skp t n q.1) else .inl (run isD t n (skp t n q.1), true) := rfl
  refine S_X5_takeNumber_0 h.1.r2 (fun g => ?_) (fun g => ?_)
  rotate_left
  · have g' : ¬ isNb t n q := fun c => g (e2.trans (knd_2.mpr c))
    rw [if_pos g'] at en
    refine S_X5_takeNumber_13 (d1 := 0) (by omega) (c_refuse h (by decide)) (fun z I3 R3 q3 => ?_)
    obtain ⟨p1, p2, p3, rfl⟩ := q3
    refine S_X5_takeNumber_22 ⟨?_, p3, FR.rf⟩
    unfold NRes; rw [en]
    rw [e3] at p2
    exact ⟨rfl, p2⟩
  have g' : isNb t n q := knd_2.mp (e2.symm.trans g)
  rw [if_neg (fun c => c g')] at en
  have rl := run_le (f := isD) (t := t) (n := n) (p := skp t n q.1) (by have := g'.1; omega)
  have rg := run_ge isD t n (skp t n q.1)
  have e4' : I 67 4 = run isD t n (skp t n q.1) := by rw [e4]; unfold tto; rw [if_pos g'.1, if_neg (isL_D g'.2.1), if_pos g'.2.1]
  have eL : I 67 4 - I 67 3 = lenN t n q := by rw [e4', e3]; rfl
  refine S_X5_takeNumber_25 (by omega) (fun g2 => ?_) (fun g2 => ?_)
  rotate_left
  · rw [eL] at g2
    rw [if_pos g2] at en
    refine S_X5_takeNumber_38 (d1 := 0) (by omega) (c_refuse h (by decide)) (fun z I3 R3 q3 => ?_)
    obtain ⟨p1, p2, p3, rfl⟩ := q3
    refine S_X5_takeNumber_49 ⟨?_, p3, FR.rf⟩
    unfold NRes; rw [en]
    rw [e3] at p2
    exact ⟨rfl, p2⟩
  rw [eL] at g2
  rw [if_neg (by omega)] at en
  have eV : I 67 5 = valN t n q := by
    rw [e5]; unfold tva
    rw [if_pos g'.1, if_neg (isL_D g'.2.1), if_pos g'.2.1]
    unfold valN lenN
    unfold lenN at g2
    rw [show min (run isD t n (skp t n q.1) - skp t n q.1) 4 = run isD t n (skp t n q.1) - skp t n q.1 by omega]
  have vr : 0 ≤ valN t n q ∧ valN t n q ≤ 9999 := by
    unfold valN
    refine dv_4 (by omega) (fun i i0 i1 => ?_)
    unfold lenN at g2 i1
    exact isD_iff.mp (run_in (f := isD) (t := t) (n := n) (p := skp t n q.1) (j := skp t n q.1 + i) (by omega) (by omega)).2
  have bad : (valN t n q < lo ∨ hi < valN t n q) → PN X 2 mX5_takeNumber 62 [(2, 67)] [] I R (fun v I' R' => NRes t n lo hi q v.2 I' R' ∧ FR sF I I' ∧ FR sR R R') := fun c => by
    rw [if_pos c] at en
    refine S_X5_takeNumber_62 (d1 := 0) (by omega) (c_refuse h (by decide)) (fun z I3 R3 q3 => ?_)
    obtain ⟨p1, p2, p3, rfl⟩ := q3
    refine S_X5_takeNumber_71 ⟨?_, p3, FR.rf⟩
    unfold NRes; rw [en]
    rw [e3] at p2
    exact ⟨rfl, p2⟩
  refine S_X5_takeNumber_52 (by omega) hlo (fun g3 => bad (Or.inl (by omega))) (fun g3 => ?_)
  refine S_X5_takeNumber_57 (by omega) hhi (fun g4 => ?_) (fun g4 => bad (Or.inr (by omega)))
  rw [if_neg (by omega)] at en
  refine S_X5_takeNumber_74 (d1 := 1) (by omega) (c_adv hs h) (fun z I3 R3 q3 => ?_)
  obtain ⟨p1, p2, p3, p4⟩ := q3
  refine S_X5_takeNumber_78 ⟨?_, p3, p4⟩
  rw [behT_N g'] at p1
  unfold NRes; rw [en]
  show _ ∧ _
  exact ⟨eV, by rw [← eV] at *; omega, by omega, p2, p1⟩
/-- the name that is next as the class holds it -/
def valD (t : Int → Int) (n : Int) (q : Int × Bool) : Int := tva t n (skp t n q.1)
def ARes (t : Int → Int) (n : Int) (q : Int × Bool) (v : Int) (I R : PF) : Prop := match namS t n (.inl q) with
  | .inl q' => v = valD t n q ∧ 0 ≤ v ∧ v < 387420489 ∧ I 67 7 = skp t n q.1 ∧ DSt t n (.inl q') I R
  | .inr f => v = -1 ∧ DSt t n (.inr f) I R
theorem c_takeName {X : CX} {I R : PF} {t : Int → Int} {n : Int} {q : Int × Bool} (hs : Shp R) (h : DSt t n (.inl q) I R) :
    CN X 2 mX5_takeName [(2, 67)] I R (fun v I' R' => ARes t n q v.2 I' R' ∧ FR sF I I' ∧ FR sR R R') := by
  refine callee_b (by decide +kernel) (Nat.le_of_ble_eq_true rfl) rfl ?_
  have e2 := h.1.2.2.2.2.1
  have e3 := h.1.2.2.2.1
  have e4 := h.1.2.2.2.2.2.1
  have e5 := h.1.2.2.2.2.2.2.1
  have e6 := h.1.2.2.2.2.2.2.2
  have q0 := h.1.2.1
  have hn := h.1.1.2.2.2.1
  have sg := skp_ge t n q.1
  have tr := twd_r t n (skp t n q.1)
  have sr : ∀ w : Nat, w < 38 → 1 ≤ w → inR (sW 1 (w : Int)) := by decide
  have en : namS t n (.inl q) = if ¬ isW t n q ∨ tw t n (.inl q) ∈ ow5 then .inr (1, skp t n q.1) else if 6 < lenW t n q then .inr (1, skp t n q.1 + 6) else .inl (run isL t n (skp t n q.1), true) := rfl
  have bad : (¬ isW t n q ∨ tw t n (.inl q) ∈ ow5) → PN X 2 mX5_takeName 23 [(2, 67)] [] I R (fun v I' R' => ARes t n q v.2 I' R' ∧ FR sF I I' ∧ FR sR R R') := fun c => by
    rw [if_pos c] at en
    refine S_X5_takeName_23 (d1 := 0) (by omega) (c_refuse h (by decide)) (fun z I3 R3 q3 => ?_)
    obtain ⟨p1, p2, p3, rfl⟩ := q3
    refine S_X5_takeName_32 ⟨?_, p3, FR.rf⟩
    unfold ARes; rw [en]
    rw [e3] at p2
    exact ⟨rfl, p2⟩
  refine S_X5_takeName_0 h.1.r2 (fun g => bad (Or.inl (fun c => g (e2.trans (knd_1.mpr c))))) (fun g => ?_)
  have g' : isW t n q := knd_1.mp (e2.symm.trans g)
  have own := tok_own g'
  refine S_X5_takeName_13 e6 (by omega) (by have := sr (twd t n (skp t n q.1)).toNat (by omega) (by omega); rw [show (((twd t n (skp t n q.1)).toNat : Nat) : Int) = twd t n (skp t n q.1) by omega] at this; exact this) (fun g2 => ?_) (fun g2 => bad (Or.inr (own.mp g2)))
  rw [if_neg (fun c => c.elim (fun c => c g') (fun c => own.mpr c g2))] at en
  have rl := run_le (f := isL) (t := t) (n := n) (p := skp t n q.1) (by have := g'.1; omega)
  have rg := run_ge isL t n (skp t n q.1)
  have e4' : I 67 4 = run isL t n (skp t n q.1) := by rw [e4]; unfold tto; rw [if_pos g'.1, if_pos g'.2.1]
  have eL : I 67 4 - I 67 3 = lenW t n q := by rw [e4', e3]; rfl
  refine S_X5_takeName_35 (by omega) (fun g3 => ?_) (fun g3 => ?_)
  rotate_left
  · rw [eL] at g3
    rw [if_pos g3] at en
    refine S_X5_takeName_49 (d1 := 0) (by omega) (c_refuse h (by decide)) (fun z I3 R3 q3 => ?_)
    obtain ⟨p1, p2, p3, rfl⟩ := q3
    refine S_X5_takeName_61 ⟨?_, p3, FR.rf⟩
    unfold ARes; rw [en]
    rw [e3] at p2
    exact ⟨rfl, p2⟩
  rw [if_neg (by omega)] at en
  refine S_X5_takeName_64 (d1 := 1) (by omega) (c_adv hs h) (fun z I3 R3 q3 => ?_)
  obtain ⟨p1, p2, p3, p4⟩ := q3
  refine S_X5_takeName_68 ⟨?_, p3, p4⟩
  rw [behT_W g'] at p1
  have vr : 0 ≤ valD t n q ∧ valD t n q < 387420489 := by
    unfold valD tva
    rw [if_pos g'.1, if_pos g'.2.1]
    refine c6_r (fun i i0 i1 => ?_)
    exact isL_iff.mp (run_in (f := isL) (t := t) (n := n) (p := skp t n q.1) (j := skp t n q.1 + i) (by omega) (by omega)).2
  unfold ARes; rw [en]
  show _ ∧ _
  refine ⟨e5, ?_, ?_, p2, p1⟩
  · show 0 ≤ I 67 5; rw [e5]; exact vr.1
  · show I 67 5 < _; rw [e5]; exact vr.2
theorem c_start {X : CX} {I R : PF} {t : Int → Int} {n : Int} (hs : Shp R) (h65 : I 65 = t) (hn : 0 ≤ n ∧ n ≤ 1600) (hT : ∀ j, 0 ≤ j → j < 1600 → 0 ≤ t j ∧ t j ≤ 255) :
    CN X 2 mX5_start [(2, 67), (0, n)] I R (fun _ I' R' => DSt t n (.inl (0, false)) I' R' ∧ FR (fun x y => x = 67 ∧ 1 ≤ y ∧ y ≤ 9) I I' ∧ FR sR R R') := by
  refine callee_b (by decide +kernel) (Nat.le_of_ble_eq_true rfl) rfl ?_
  refine S_X5_start_0 (d1 := 0) hs (by omega) (c_min (by omega) (by omega)) (fun z I2 R2 q => ?_)
  obtain ⟨(hz : z = _), rfl, rfl⟩ := q
  have hz' : z = n := by omega
  subst hz'
  have ff : FR (fun x y => x = 67 ∧ 1 ≤ y ∧ y ≤ 9) I2 (u2 (u2 (u2 (u2 (u2 (u2 (u2 I2 67 1 z) 67 2 3) 67 3 0) 67 4 0) 67 7 0) 67 8 0) 67 9 (-1)) := FR.tr (FR.tr (FR.tr (FR.tr (FR.tr (FR.tr (FR_u2 ⟨rfl, by decide⟩) (FR_u2 ⟨rfl, by decide⟩)) (FR_u2 ⟨rfl, by decide⟩)) (FR_u2 ⟨rfl, by decide⟩)) (FR_u2 ⟨rfl, by decide⟩)) (FR_u2 ⟨rfl, by decide⟩)) (FR_u2 ⟨rfl, by decide⟩)
  have a1 : (u2 (u2 (u2 (u2 (u2 (u2 (u2 I2 67 1 z) 67 2 3) 67 3 0) 67 4 0) 67 7 0) 67 8 0) 67 9 (-1)) 67 1 = z := by simp [u2]
  have a2 : (u2 (u2 (u2 (u2 (u2 (u2 (u2 I2 67 1 z) 67 2 3) 67 3 0) 67 4 0) 67 7 0) 67 8 0) 67 9 (-1)) 67 2 = 3 := by simp [u2]
  have a4 : (u2 (u2 (u2 (u2 (u2 (u2 (u2 I2 67 1 z) 67 2 3) 67 3 0) 67 4 0) 67 7 0) 67 8 0) 67 9 (-1)) 67 4 = 0 := by simp [u2]
  have a8 : (u2 (u2 (u2 (u2 (u2 (u2 (u2 I2 67 1 z) 67 2 3) 67 3 0) 67 4 0) 67 7 0) 67 8 0) 67 9 (-1)) 67 8 = 0 := by simp [u2]
  have a9 : (u2 (u2 (u2 (u2 (u2 (u2 (u2 I2 67 1 z) 67 2 3) 67 3 0) 67 4 0) 67 7 0) 67 8 0) 67 9 (-1)) 67 9 = -1 := by simp [u2]
  have a65 : (u2 (u2 (u2 (u2 (u2 (u2 (u2 I2 67 1 z) 67 2 3) 67 3 0) 67 4 0) 67 7 0) 67 8 0) 67 9 (-1)) 65 = t := by
    rw [← h65]; funext j; exact ff 65 j (fun c => by omega)
  refine S_X5_start_10 (d1 := 1) (by omega) (c_advance hs ⟨a65, a1, hn.1, hn.2, hT⟩ a4 ⟨Int.le_refl _, hn.1⟩ (by rw [a2]; decide)) (fun z2 I3 R3 q3 => ?_)
  obtain ⟨p1, p2, p3, p4⟩ := q3
  rw [a2] at p1
  exact S_X5_start_47 ⟨⟨p1, (p3 67 8 (fun c => by unfold sS at c; omega)).trans a8, (p3 67 9 (fun c => by unfold sS at c; omega)).trans a9⟩, ff.tr (p3.mono (fun x y c => ⟨c.1, by unfold sS at c; omega, by unfold sS at c; omega⟩)), p4⟩
