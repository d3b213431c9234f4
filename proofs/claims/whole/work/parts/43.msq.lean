/-! ===== where a reader stands: behind p (was it a word or a number), or at its first fault ===== -/
abbrev SA : Type := (Int × Bool) ⊕ (Int × Int)
/-- a word f of length L is next -/
def atW (t : Int → Int) (n : Int) (f : Int → Int) (L : Int) : SA → Prop
  | .inl q => skp t n q.1 < n ∧ isL (t (skp t n q.1)) = true ∧ ¬ (q.2 = true ∧ skp t n q.1 = q.1) ∧ run isL t n (skp t n q.1) - skp t n q.1 = L ∧ ∀ i, 0 ≤ i → i < L → t (skp t n q.1 + i) = f i
  | .inr _ => False
/-- behind L more, as a word or number -/
def goW (t : Int → Int) (n L : Int) : SA → SA
  | .inl q => .inl (skp t n q.1 + L, true)
  | .inr f => .inr f
/-- what is next, -1 at the end; none where it is at fault -/
def nxt (t : Int → Int) (n : Int) : SA → Int
  | .inl q => lkv t n (skp t n q.1)
  | .inr _ => -1
def goS (t : Int → Int) (n : Int) : SA → SA
  | .inl q => .inl (skp t n q.1 + 1, false)
  | .inr f => .inr f
/-- at fault k where it stands -/
def flt (t : Int → Int) (n k : Int) : SA → SA
  | .inl q => .inr (k, skp t n q.1)
  | .inr f => .inr f
/-- the cells that the model's reading changes -/
def mRd (x y : Int) : Prop := x = 306 ∧ (y = 2 ∨ y = 4 ∨ y = 5 ∨ y = 6 ∨ y = 10 ∨ y = 41)
def FR (P : Int → Int → Prop) (I I' : PF) : Prop := ∀ x y, ¬ P x y → I' x y = I x y
theorem FR.rf {P : Int → Int → Prop} {I : PF} : FR P I I := fun _ _ _ => rfl
theorem FR.tr {P : Int → Int → Prop} {I J K : PF} (h : FR P I J) (g : FR P J K) : FR P I K := fun x y c => (g x y c).trans (h x y c)
theorem FR.mono {P P' : Int → Int → Prop} {I J : PF} (h : FR P I J) (g : ∀ x y, P x y → P' x y) : FR P' I J := fun x y c => h x y (fun d => c (g x y d))
theorem FR_u2 {P : Int → Int → Prop} {I : PF} {o j v : Int} (h : P o j) : FR P I (u2 I o j v) := fun x y c => by
  unfold u2
  rw [if_neg (fun e => c (by rw [e.1, e.2]; exact h))]
/-- the model's cells stand for s -/
def MSt (t : Int → Int) (n : Int) (s : SA) (I : PF) : Prop := PT t n I ∧ match s with
  | .inl q => I 306 5 = 0 ∧ 0 ≤ q.1 ∧ q.1 ≤ I 306 2 ∧ skp t n (I 306 2) = skp t n q.1 ∧ (q.2 = true → I 306 4 = q.1) ∧ (q.2 = false → I 306 4 < q.1)
  | .inr f => I 306 5 = f.1 ∧ f.1 ≠ 0 ∧ I 306 6 = f.2
theorem MSt.r5 {t : Int → Int} {n : Int} {s : SA} {I : PF} (h : MSt t n s I) : inR (I 306 5) := h.1.2.2.2.2.2.2.2.2.1
theorem MSt.bad {t : Int → Int} {n : Int} {f : Int × Int} {I : PF} (h : MSt t n (.inr f) I) : I 306 5 ≠ 0 := by rw [h.2.1]; exact h.2.2.1
theorem MSt.ok {t : Int → Int} {n : Int} {q : Int × Bool} {I : PF} (h : MSt t n (.inl q) I) : I 306 5 = 0 := h.2.1
/-- the model has looked -/
theorem MSt.look {t : Int → Int} {n : Int} {q : Int × Bool} {I : PF} (h : MSt t n (.inl q) I) : MSt t n (.inl q) (u2 I 306 2 (skp t n (I 306 2))) ∧ u2 I 306 2 (skp t n (I 306 2)) 306 2 = skp t n q.1 ∧ skp t n q.1 ≤ n ∧ 0 ≤ skp t n q.1 := by
  obtain ⟨hp, h1, h2, h3, h4, h5, h6⟩ := h
  have g1 := skp_ge t n (I 306 2)
  have g2 := skp_le (t := t) hp.2.2.2.2.2.2.1
  have hn := hp.2.2.2.2.2.2.1
  refine ⟨⟨hp.at (by omega) g2, ?_⟩, by rw [u2_at, h4], by omega, by omega⟩
  refine ⟨by rw [u2_j (by decide)]; exact h1, h2, by rw [u2_at]; omega, by rw [u2_at, skp_skp]; exact h4, ?_, ?_⟩
  · rw [u2_j (by decide)]; exact h5
  · rw [u2_j (by decide)]; exact h6
/-- what the model's isHere sees is what is next -/
theorem atW_iff {t : Int → Int} {n : Int} {q : Int × Bool} {I : PF} {f : Int → Int} {L : Int} (h : MSt t n (.inl q) I) : hereP t n (skp t n (I 306 2)) (I 306 4) f L ↔ atW t n f L (.inl q) := by
  obtain ⟨hp, h1, h2, h3, h4, h5, h6⟩ := h
  have g1 := skp_ge t n q.1
  unfold hereP atW
  rw [h4]
  have e : skp t n q.1 ≠ I 306 4 ↔ ¬ (q.2 = true ∧ skp t n q.1 = q.1) := by
    cases hq : q.2 with
    | true => rw [h5 hq]; simp
    | false => have := h6 hq; simp; omega
  rw [e]
/-- a word of the model: its cells -/
def WA (I : PF) (a : Int) : Prop := kd MF a = 14 ∧ (ln MF a : Int) ≤ 6 ∧ (∀ i, 0 ≤ i → i < (ln MF a : Int) → inR (I a i)) ∧ a ≠ 306 ∧ 0 ≤ (ln MF a : Int)
/-- behind a word that was next -/
noncomputable def afW (t : Int → Int) (n : Int) (f : Int → Int) (L : Int) (s : SA) : SA := @ite _ (atW t n f L s) (Classical.propDecidable _) (goW t n L s) s
theorem afW_t {t : Int → Int} {n : Int} {f : Int → Int} {L : Int} {s : SA} (h : atW t n f L s) : afW t n f L s = goW t n L s := @if_pos _ (Classical.propDecidable _) h _ _ _
theorem afW_f {t : Int → Int} {n : Int} {f : Int → Int} {L : Int} {s : SA} (h : ¬ atW t n f L s) : afW t n f L s = s := @if_neg _ (Classical.propDecidable _) h _ _ _
theorem c_here {X : CX} {I R : PF} {t : Int → Int} {n a1 : Int} {s : SA} (hs : Shp R) (hM : MSt t n s I) (hw : WA I a1) :
    CN X 2 mX11_isHere [(2, 306), (2, a1)] I R (fun v I' R' => v.2 = bi (atW t n (I a1) (ln MF a1) s) ∧ MSt t n s I' ∧ FR mRd I I' ∧ R' = R ∧ (∀ q, s = .inl q → I' 306 2 = skp t n q.1)) := by
  have h := c_isHere (X := X) hs hM.1 hw.1 hw.2.1 hw.2.2.1 hw.2.2.2.1
  refine Callee.mono h (fun v I' R' q => ?_)
  obtain ⟨q1, q2, q3⟩ := q
  cases s with
  | inl q =>
    have e5 := hM.ok
    have e := hM.look
    rw [if_pos e5] at q2
    refine ⟨?_, by rw [q2]; exact e.1, by rw [q2]; exact FR_u2 ⟨rfl, Or.inl rfl⟩, q3, fun q' hq => ?_⟩
    · rw [q1]
      exact bi_congr ⟨fun c => (atW_iff hM).mp c.2, fun c => ⟨e5, (atW_iff hM).mpr c⟩⟩
    · cases hq; rw [q2]; exact e.2.1
  | inr f =>
    have e5 := hM.bad
    rw [if_neg e5] at q2
    refine ⟨?_, by rw [q2]; exact hM, by rw [q2]; exact FR.rf, q3, fun q' hq => by cases hq⟩
    rw [q1]
    exact bi_congr ⟨fun c => absurd c.1 e5, fun c => c.elim⟩
