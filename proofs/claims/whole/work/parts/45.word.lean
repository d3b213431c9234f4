/-! ===== words as numbers ===== -/
def lt6 (f : Int → Int) (L k : Int) : Int := if k < L then f k - 96 else 0
def c6 (f : Int → Int) (L : Int) : Int := 14348907 * lt6 f L 0 + 531441 * lt6 f L 1 + 19683 * lt6 f L 2 + 729 * lt6 f L 3 + 27 * lt6 f L 4 + lt6 f L 5
theorem lt6_r {f : Int → Int} {L k : Int} (h : ∀ i, 0 ≤ i → i < L → 97 ≤ f i ∧ f i ≤ 122) (hk : 0 ≤ k) : 0 ≤ lt6 f L k ∧ lt6 f L k ≤ 26 ∧ (k < L ↔ 0 < lt6 f L k) ∧ (k < L → lt6 f L k = f k - 96) := by
  unfold lt6
  by_cases c : k < L
  · have := h k hk c
    rw [if_pos c]; exact ⟨by omega, by omega, by omega, fun _ => rfl⟩
  · rw [if_neg c]; exact ⟨by omega, by omega, by omega, fun x => absurd x c⟩
theorem c6_inj {f g : Int → Int} {L K : Int} (hL : 0 < L ∧ L ≤ 6) (hK : 0 < K ∧ K ≤ 6) (hf : ∀ i, 0 ≤ i → i < L → 97 ≤ f i ∧ f i ≤ 122) (hg : ∀ i, 0 ≤ i → i < K → 97 ≤ g i ∧ g i ≤ 122) : c6 f L = c6 g K ↔ L = K ∧ ∀ i, 0 ≤ i → i < L → f i = g i := by
  constructor
  · intro h
    unfold c6 at h
    have f0 := lt6_r hf (k := 0) (by decide); have f1 := lt6_r hf (k := 1) (by decide); have f2 := lt6_r hf (k := 2) (by decide)
    have f3 := lt6_r hf (k := 3) (by decide); have f4 := lt6_r hf (k := 4) (by decide); have f5 := lt6_r hf (k := 5) (by decide)
    have g0 := lt6_r hg (k := 0) (by decide); have g1 := lt6_r hg (k := 1) (by decide); have g2 := lt6_r hg (k := 2) (by decide)
    have g3 := lt6_r hg (k := 3) (by decide); have g4 := lt6_r hg (k := 4) (by decide); have g5 := lt6_r hg (k := 5) (by decide)
    have e : lt6 f L 0 = lt6 g K 0 ∧ lt6 f L 1 = lt6 g K 1 ∧ lt6 f L 2 = lt6 g K 2 ∧ lt6 f L 3 = lt6 g K 3 ∧ lt6 f L 4 = lt6 g K 4 ∧ lt6 f L 5 = lt6 g K 5 := by
      clear hf hg
      refine ⟨?_, ?_, ?_, ?_, ?_, ?_⟩ <;> omega
    obtain ⟨e0, e1, e2, e3, e4, e5⟩ := e
    have hLK : L = K := by omega
    refine ⟨hLK, fun i i0 i1 => ?_⟩
    have : i = 0 ∨ i = 1 ∨ i = 2 ∨ i = 3 ∨ i = 4 ∨ i = 5 := by omega
    rcases this with rfl | rfl | rfl | rfl | rfl | rfl
    · have := f0.2.2.2 i1; have := g0.2.2.2 (by omega); omega
    · have := f1.2.2.2 i1; have := g1.2.2.2 (by omega); omega
    · have := f2.2.2.2 i1; have := g2.2.2.2 (by omega); omega
    · have := f3.2.2.2 i1; have := g3.2.2.2 (by omega); omega
    · have := f4.2.2.2 i1; have := g4.2.2.2 (by omega); omega
    · have := f5.2.2.2 i1; have := g5.2.2.2 (by omega); omega
  · rintro ⟨rfl, h⟩
    have e : ∀ k, 0 ≤ k → lt6 f L k = lt6 g L k := fun k hk => by
      unfold lt6
      by_cases c : k < L
      · rw [if_pos c, if_pos c, h k hk c]
      · rw [if_neg c, if_neg c]
    unfold c6
    rw [e 0 (by decide), e 1 (by decide), e 2 (by decide), e 3 (by decide), e 4 (by decide), e 5 (by decide)]
/-- a word is next, and not right behind a word or number -/
abbrev isW (t : Int → Int) (n : Int) (q : Int × Bool) : Prop := skp t n q.1 < n ∧ isL (t (skp t n q.1)) = true ∧ ¬ (q.2 = true ∧ skp t n q.1 = q.1)
/-- how long it is -/
def lenW (t : Int → Int) (n : Int) (q : Int × Bool) : Int := run isL t n (skp t n q.1) - skp t n q.1
def cdW (t : Int → Int) (n : Int) (q : Int × Bool) : Int := c6 (fun i => t (skp t n q.1 + i)) (lenW t n q)
/-- the word that is next, as a number; 0 where none of at most six letters is -/
def tw (t : Int → Int) (n : Int) : SA → Int
  | .inl q => if isW t n q ∧ lenW t n q ≤ 6 then cdW t n q else 0
  | .inr _ => 0
def goT (t : Int → Int) (n : Int) : SA → SA
  | .inl q => .inl (run isL t n (skp t n q.1), true)
  | .inr f => .inr f
theorem lenW_pos {t : Int → Int} {n : Int} {q : Int × Bool} (h : isW t n q) : 0 < lenW t n q := by
  have := run_ge isL t n (skp t n q.1 + 1)
  unfold lenW
  rw [run_y h.1 h.2.1]
  omega
theorem lenW_let {t : Int → Int} {n : Int} {q : Int × Bool} {i : Int} (h0 : 0 ≤ i) (h1 : i < lenW t n q) : 97 ≤ t (skp t n q.1 + i) ∧ t (skp t n q.1 + i) ≤ 122 := by
  unfold lenW at h1
  exact isL_iff.mp (run_in (p := skp t n q.1) (n := n) (j := skp t n q.1 + i) (by omega) (by omega)).2
/-- the cells of a word with the number c -/
def WC (I : PF) (a c : Int) : Prop := (∀ i, 0 ≤ i → i < (ln MF a : Int) → 97 ≤ I a i ∧ I a i ≤ 122) ∧ c6 (I a) (ln MF a) = c ∧ c ≠ 0
theorem atW_tw {t : Int → Int} {n : Int} {s : SA} {I : PF} {a c : Int} (hw : WC I a c) (h1 : 0 < (ln MF a : Int)) (h2 : (ln MF a : Int) ≤ 6) : atW t n (I a) (ln MF a) s ↔ tw t n s = c := by
  cases s with
  | inr f => exact ⟨fun h => h.elim, fun h => hw.2.2 h.symm⟩
  | inl q =>
    show (skp t n q.1 < n ∧ _) ↔ (if isW t n q ∧ lenW t n q ≤ 6 then cdW t n q else 0) = c
    constructor
    · rintro ⟨b1, b2, b3, b4, b5⟩
      have hW : isW t n q := ⟨b1, b2, b3⟩
      have hl : lenW t n q = (ln MF a : Int) := b4
      rw [if_pos ⟨hW, by omega⟩, ← hw.2.1]
      exact (c6_inj ⟨lenW_pos hW, by omega⟩ ⟨h1, h2⟩ (fun i i0 i1 => lenW_let i0 i1) hw.1).mpr ⟨hl, fun i i0 i1 => b5 i i0 (by omega)⟩
    · intro h
      by_cases hc : isW t n q ∧ lenW t n q ≤ 6
      · rw [if_pos hc, ← hw.2.1] at h
        have := (c6_inj ⟨lenW_pos hc.1, hc.2⟩ ⟨h1, h2⟩ (fun i i0 i1 => lenW_let i0 i1) hw.1).mp h
        exact ⟨hc.1.1, hc.1.2.1, hc.1.2.2, this.1, fun i i0 i1 => this.2 i i0 (by omega)⟩
      · rw [if_neg hc] at h; exact absurd h.symm hw.2.2
theorem goW_goT {t : Int → Int} {n : Int} {s : SA} {f : Int → Int} {L : Int} (h : atW t n f L s) : goW t n L s = goT t n s := by
  cases s with
  | inr f => rfl
  | inl q => obtain ⟨b1, b2, b3, b4, b5⟩ := h; show Sum.inl _ = Sum.inl _; rw [show skp t n q.1 + L = run isL t n (skp t n q.1) by omega]
def takW (t : Int → Int) (n c : Int) (s : SA) : SA := if tw t n s = c then goT t n s else s
def askC (t : Int → Int) (n c : Int) (s : SA) : SA := if tw t n s = c then goT t n s else flt t n 1 s
/-- the model's words -/
def wcs : List (Int × Int) := [(309, 282078293), (310, 41983839), (311, 295406595), (312, 119717838), (313, 173171034), (314, 232608281), (315, 24977727), (316, 287754525), (317, 230176647), (318, 65479509), (319, 281319642), (320, 94421673), (321, 330801246), (322, 335086821), (323, 187559307), (324, 111991167), (325, 209161764), (326, 117630947), (327, 338354415), (328, 289999629), (329, 51270206), (330, 266704650), (331, 103507065), (332, 212302449), (333, 224799543), (334, 21867813), (335, 209249973), (336, 20962395), (337, 191594322), (338, 187539624), (355, 91245096), (356, 173106882), (357, 218819934), (358, 295344468), (359, 194895963), (360, 174878163), (361, 209249973), (362, 21867813), (363, 224799543), (364, 20962395), (365, 191594322), (366, 187539624), (367, 209161764), (368, 117630947), (369, 287754525), (370, 230176647), (371, 338354415), (372, 289999629), (373, 212302449), (374, 51270206), (375, 266704650), (376, 94421673), (377, 103507065), (378, 281319642)]
def CW (I : PF) : Prop := ∀ p ∈ wcs, WC I p.1 p.2
theorem CW.fr {I I' : PF} (h : CW I) (g : ∀ p ∈ wcs, I' p.1 = I p.1) : CW I' := fun p hp => by
  obtain ⟨h1, h2⟩ := h p hp
  exact ⟨fun i i0 i1 => by rw [g p hp]; exact h1 i i0 i1, by rw [g p hp]; exact h2⟩
theorem wcs_hi : ∀ p ∈ wcs, (309 ≤ p.1 ∧ p.1 ≤ 338) ∨ (355 ≤ p.1 ∧ p.1 ≤ 378) := by decide
theorem CW.rows {I I' : PF} (h : CW I) (g : ∀ a, (309 ≤ a ∧ a ≤ 338) ∨ (355 ≤ a ∧ a ≤ 378) → I' a = I a) : CW I' := h.fr (fun p hp => g p.1 (wcs_hi p hp))
theorem CW.rd {I I' : PF} (h : CW I) (g : FR mRd I I') : CW I' := h.rows (fun a ha => funext fun i => g a i (fun c => by have := c.1; omega))
theorem wcs_k : ∀ p ∈ wcs, kd MF p.1 = 14 ∧ 0 < (ln MF p.1 : Int) ∧ (ln MF p.1 : Int) ≤ 6 := by decide +kernel
theorem CW.wa {I : PF} {p : Int × Int} (h : CW I) (hp : p ∈ wcs) : WA I p.1 := by
  obtain ⟨k1, k2, k3⟩ := wcs_k p hp
  exact ⟨k1, k3, fun i i0 i1 => by have := (h p hp).1 i i0 i1; exact ⟨by omega, by omega⟩, by have := wcs_hi p hp; omega, by omega⟩
theorem CW.at {I : PF} {a c : Int} {t : Int → Int} {n : Int} {s : SA} (h : CW I) (hp : (a, c) ∈ wcs) : atW t n (I a) (ln MF a) s ↔ tw t n s = c := atW_tw (h _ hp) (wcs_k _ hp).2.1 (wcs_k _ hp).2.2
theorem w_here {X : CX} {I R : PF} {t : Int → Int} {n a c : Int} {s : SA} (hp : (a, c) ∈ wcs) (hs : Shp R) (hM : MSt t n s I) (hc : CW I) :
    CN X 2 mX11_isHere [(2, 306), (2, a)] I R (fun v I' R' => v.2 = bi (tw t n s = c) ∧ MSt t n s I' ∧ FR mRd I I' ∧ R' = R ∧ (∀ q, s = .inl q → I' 306 2 = skp t n q.1)) :=
  (c_here hs hM (hc.wa hp)).mono (fun v I' R' h => ⟨by rw [h.1]; exact bi_congr (hc.at hp), h.2⟩)
theorem w_takes {X : CX} {I R : PF} {t : Int → Int} {n a c : Int} {s : SA} (hp : (a, c) ∈ wcs) (hs : Shp R) (hM : MSt t n s I) (hc : CW I) :
    CN X 3 mX11_takes [(2, 306), (2, a)] I R (fun v I' R' => v.2 = bi (tw t n s = c) ∧ MSt t n (takW t n c s) I' ∧ FR mRd I I' ∧ R' = R ∧ (∀ q, s = .inl q → tw t n s ≠ c → I' 306 2 = skp t n q.1)) :=
  (c_takes hs hM (hc.wa hp)).mono (fun v I' R' h => by
    obtain ⟨h1, h2, h3, h4, h5⟩ := h
    refine ⟨by rw [h1]; exact bi_congr (hc.at hp), ?_, h3, h4, fun q hq hn => h5 q hq (fun k => hn ((hc.at hp).mp k))⟩
    unfold takW
    by_cases k : tw t n s = c
    · have k' := (hc.at hp).mpr k
      rw [if_pos k, ← goW_goT k']; rw [afW_t k'] at h2; exact h2
    · rw [if_neg k]; rw [afW_f (fun x => k ((hc.at hp).mp x))] at h2; exact h2)
theorem w_asks {X : CX} {I R : PF} {t : Int → Int} {n a c : Int} {s : SA} (hp : (a, c) ∈ wcs) (hs : Shp R) (hM : MSt t n s I) (hc : CW I) :
    CN X 4 mX11_asks [(2, 306), (2, a)] I R (fun v I' R' => MSt t n (askC t n c s) I' ∧ FR mRd I I' ∧ R' = R) :=
  (c_asks hs hM (hc.wa hp)).mono (fun v I' R' h => by
    obtain ⟨h1, h2⟩ := h
    refine ⟨?_, h2⟩
    unfold askC
    by_cases k : tw t n s = c
    · have k' := (hc.at hp).mpr k
      rw [if_pos k, ← goW_goT k']; rw [askW_t k'] at h1; exact h1
    · rw [if_neg k]; rw [askW_f (fun x => k ((hc.at hp).mp x))] at h1; exact h1)
