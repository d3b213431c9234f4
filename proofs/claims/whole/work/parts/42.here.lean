/-! ===== the model reads words ===== -/
/-- the word f of length L stands at a, whole, and not right behind a word or number that ended at e -/
def hereP (t : Int → Int) (n a e : Int) (f : Int → Int) (L : Int) : Prop := a < n ∧ isL (t a) = true ∧ a ≠ e ∧ run isL t n a - a = L ∧ ∀ i, 0 ≤ i → i < L → t (a + i) = f i
theorem here_run {X : CX} {d : Nat} {I R : PF} {Q : PV → PF → PF → Prop} {a1 : Int} (hs : Shp R) (hd : 2 ≤ d) {t : Int → Int} {n : Int} (hp : PT t n I) : ∀ (k : Nat) (x : Int), (n - x).toNat < k → 0 ≤ x → x ≤ n →
    PN X d mX11_isHere 61 [(2, 306), (2, a1), (0, run isL t n x)] [] I R Q → PN X d mX11_isHere 35 [(2, 306), (2, a1), (0, x)] [] I R Q := by
  obtain ⟨h1, h2, h3, h4, h5, h6, h7, h8, h9⟩ := hp
  intro k
  induction k with
  | zero => intro x h; exact absurd h (Nat.not_lt_zero _)
  | succ k ih =>
    intro x h g0 g1 hk
    have ht := h5 x g0
    refine S_X11_isHere_35 (by omega) (by omega) (fun g => ?_) (fun g => ?_)
    · rw [run_n (by omega)] at hk
      exact hk
    · have ht := ht (by omega)
      have e7 : I 307 x = t x := by rw [h1]
      refine S_X11_isHere_43 (d1 := 1) hs (by omega) (by omega) (c_isLetter (by omega)) (fun z I2 R2 q => ?_)
      obtain ⟨(hz : z = _), rfl, rfl⟩ := q
      have hb := bi_r (97 ≤ I2 307 x ∧ I2 307 x ≤ 122)
      refine S_X11_isHere_52 (by omega) (fun g2 => ?_) (fun g2 => ?_)
      · have := bi_0 (hz.symm.trans g2)
        rw [run_n (fun c => this (by rw [e7]; exact isL_iff.mp c.2))] at hk
        exact hk
      · have := bi_1 (fun c => g2 (hz.trans c))
        rw [run_y (by omega) (isL_iff.mpr (by rw [← e7]; exact this))] at hk
        exact S_X11_isHere_55 (ih (x + 1) (by omega) (by omega) (by omega) hk)
theorem here_cmp {X : CX} {d : Nat} {I R : PF} {Q : PV → PF → PF → Prop} {a1 : Int} (hs : Shp R) {t : Int → Int} {n : Int} (hp : PT t n I) (hk : kd MF a1 = 14) (hl : (ln MF a1 : Int) ≤ 6) (hw : ∀ i, 0 ≤ i → i < (ln MF a1 : Int) → inR (I a1 i)) (ha : I 306 2 + (ln MF a1 : Int) ≤ n)
    (ht : (∀ i, 0 ≤ i → i < (ln MF a1 : Int) → t (I 306 2 + i) = I a1 i) → Q (0, 1) I R) (hf : (¬ ∀ i, 0 ≤ i → i < (ln MF a1 : Int) → t (I 306 2 + i) = I a1 i) → Q (0, 0) I R) : ∀ (k : Nat) (x : Int), ((ln MF a1 : Int) - x).toNat < k → 0 ≤ x → x ≤ (ln MF a1 : Int) →
    (∀ i, 0 ≤ i → i < x → t (I 306 2 + i) = I a1 i) → PN X d mX11_isHere 76 [(2, 306), (2, a1), (9, 0), (0, x)] [] I R Q := by
  obtain ⟨h1, h2, h3, h4, h5, h6, h7, h8, h9⟩ := hp
  intro k
  induction k with
  | zero => intro x h; exact absurd h (Nat.not_lt_zero _)
  | succ k ih =>
    intro x h g0 g1 hall
    by_cases hx : x < (ln MF a1 : Int)
    · have e7 : I 307 (I 306 2 + x) = t (I 306 2 + x) := by rw [h1]
      have r1 := h5 (I 306 2 + x) (by omega) (by omega)
      have r2 := hw x g0 hx
      refine S_X11_isHere_76 hk (by omega) (by omega) (by omega) (fun g => by omega) (fun g => ?_)
      refine S_X11_isHere_82 hs (by omega) hk (by omega) (by omega) (by omega) r2 (fun g2 => ?_) (fun g2 => ?_)
      · refine S_X11_isHere_101 (ih (x + 1) (by omega) (by omega) (by omega) (fun i i0 i1 => ?_))
        by_cases hi : i < x
        · exact hall i i0 hi
        · rw [show i = x by omega, ← e7]; exact g2
      · refine S_X11_isHere_99 (hf (fun c => g2 ?_))
        rw [e7]; exact c x g0 hx
    · refine S_X11_isHere_76 hk (by omega) (by omega) (by omega) (fun g => ?_) (fun g => by omega)
      exact S_X11_isHere_107 (ht (fun i i0 i1 => hall i i0 (by omega)))
theorem c_isHere {X : CX} {I R : PF} {t : Int → Int} {n a1 : Int} (hs : Shp R) (hp : PT t n I) (hk : kd MF a1 = 14) (hl : (ln MF a1 : Int) ≤ 6) (hw : ∀ i, 0 ≤ i → i < (ln MF a1 : Int) → inR (I a1 i)) (ha1 : a1 ≠ 306) :
    CN X 2 mX11_isHere [(2, 306), (2, a1)] I R (fun v I' R' => v.2 = bi (I 306 5 = 0 ∧ hereP t n (skp t n (I 306 2)) (I 306 4) (I a1) (ln MF a1)) ∧ I' = (if I 306 5 = 0 then u2 I 306 2 (skp t n (I 306 2)) else I) ∧ R' = R) := by
  refine callee_b (by decide +kernel) (Nat.le_of_ble_eq_true rfl) rfl ?_
  have hp0 := hp
  obtain ⟨h1, h2, h3, h4, h5, h6, h7, h8, h9⟩ := hp0
  refine S_X11_isHere_0 h9.1 (fun g => ?_) (fun g => ?_)
  · refine S_X11_isHere_28 ⟨?_, (if_neg g).symm, rfl⟩
    exact (bi_f (fun c => g c.1)).symm
  rw [if_pos g]
  refine S_X11_isHere_7 (d1 := 1) (by omega) (c_look hs hp) (fun z I2 R2 q => ?_)
  obtain ⟨(hz : z = _), rfl, rfl⟩ := q
  have a1g := skp_ge t n (I 306 2)
  have a1l := skp_le (t := t) h7
  have hpa := hp.at (a := skp t n (I 306 2)) (by omega) a1l
  generalize hA : skp t n (I 306 2) = A at *
  have tA := h5 A (by omega)
  have hzr : inR z := by rw [hz]; unfold lkv; split <;> (try have := tA (by omega)) <;> omega
  refine S_X11_isHere_11 (d1 := 1) (by omega) (c_isLetter hzr) (fun z2 I2 R3 q => ?_)
  obtain ⟨(hz2 : z2 = _), rfl, rfl⟩ := q
  have hb := bi_r (97 ≤ z ∧ z ≤ 122)
  have fin0 : ¬ hereP t n A (I 306 4) (I a1) (ln MF a1) → PN X 2 mX11_isHere 28 [] [] (u2 I 306 2 A) R3 (fun v I' R' => v.2 = bi (I 306 5 = 0 ∧ hereP t n A (I 306 4) (I a1) (ln MF a1)) ∧ I' = u2 I 306 2 A ∧ R' = R3) := fun hn => by
    refine S_X11_isHere_28 ⟨?_, rfl, rfl⟩
    exact (bi_f (fun c => hn c.2)).symm
  refine S_X11_isHere_14 (by omega) (fun g2 => ?_) (fun g2 => ?_)
  · refine fin0 (fun c => ?_)
    have := bi_0 (hz2.symm.trans g2)
    refine this ?_
    rw [hz]; unfold lkv; rw [if_pos c.1]; exact isL_iff.mp c.2.1
  have hlet := bi_1 (fun c => g2 (hz2.trans c))
  have hAn : A < n := by
    by_cases c : A < n
    · exact c
    · rw [hz] at hlet; unfold lkv at hlet; rw [if_neg c] at hlet; omega
  have hLA : isL (t A) = true := by rw [hz] at hlet; unfold lkv at hlet; rw [if_pos hAn] at hlet; exact isL_iff.mpr hlet
  refine S_X11_isHere_17 (by simp [u2] <;> omega) (by simp [u2] <;> omega) (fun g3 => ?_) (fun g3 => ?_)
  · have g3 : A ≠ I 306 4 := by simpa [u2] using g3
    refine S_X11_isHere_30 ?_
    have e2 : u2 I 306 2 A 306 2 = A := u2_at
    rw [e2]
    refine here_run hs (by omega) hpa _ A (Nat.lt_succ_self _) (by omega) (by omega) ?_
    have rl := run_le (f := isL) (t := t) (n := n) (p := A) (by omega)
    have rg := run_ge isL t n A
    refine S_X11_isHere_61 hk (by omega) (by rw [e2]; omega) (by omega) (fun g4 => ?_) (fun g4 => ?_)
    · rw [e2] at g4
      refine S_X11_isHere_74 ?_
      have ea : u2 I 306 2 A a1 = I a1 := u2_row ha1
      refine here_cmp hs hpa hk hl (by rw [ea]; exact hw) (by rw [e2]; omega) (fun c => ⟨?_, rfl, rfl⟩) (fun c => ⟨?_, rfl, rfl⟩) _ 0 (Nat.lt_succ_self _) (Int.le_refl _) (by omega) (fun i i0 i1 => by omega)
      · rw [e2, ea] at c
        exact (bi_t ⟨g, hAn, hLA, g3, g4, c⟩).symm
      · rw [e2, ea] at c
        exact (bi_f (fun k => c k.2.2.2.2.2)).symm
    · rw [e2] at g4
      refine S_X11_isHere_72 ⟨?_, rfl, rfl⟩
      exact (bi_f (fun k => g4 k.2.2.2.2.1)).symm
  · exact fin0 (fun c => c.2.2.1 (by simpa [u2] using g3))
