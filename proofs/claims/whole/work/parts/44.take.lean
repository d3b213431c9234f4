/-! ===== the model takes words and signs ===== -/
theorem WA.fr {I I' : PF} {a : Int} (h : WA I a) (g : FR mRd I I') : WA I' a := ⟨h.1, h.2.1, fun i i0 i1 => by rw [g a i (fun c => h.2.2.2.1 c.1)]; exact h.2.2.1 i i0 i1, h.2.2.2⟩
theorem MSt.taken {t : Int → Int} {n : Int} {q : Int × Bool} {I : PF} {L : Int} (h : MSt t n (.inl q) I) (h2 : I 306 2 = skp t n q.1) (hL : 0 ≤ L) (hl : skp t n q.1 + L ≤ n) : MSt t n (.inl (skp t n q.1 + L, true)) (u2 (u2 I 306 2 (I 306 2 + L)) 306 4 ((u2 I 306 2 (I 306 2 + L)) 306 2)) := by
  obtain ⟨hp, h1, h3, h4, h5, h6, h7⟩ := h
  have g1 := skp_ge t n q.1
  obtain ⟨p1, p2, p3, p4, p5, p6, p7, p8, p9⟩ := hp
  refine ⟨⟨?_, ?_, p3, p4, p5, ?_, ?_, ?_, ?_⟩, ?_, ?_, ?_, ?_, ?_, ?_⟩
  all_goals first | (simp [u2]; done) | (simp [u2]; omega) | skip
  all_goals grind [u2]
theorem MSt.signed {t : Int → Int} {n : Int} {q : Int × Bool} {I : PF} (h : MSt t n (.inl q) I) (h2 : I 306 2 = skp t n q.1) (hl : skp t n q.1 < n) (h4 : I 306 4 ≤ I 306 2) : MSt t n (.inl (skp t n q.1 + 1, false)) (u2 I 306 2 (I 306 2 + 1)) := by
  obtain ⟨hp, h1, h3, h4', h5, h6, h7⟩ := h
  have g1 := skp_ge t n q.1
  refine ⟨hp.at (by omega) (by omega), ?_⟩
  refine ⟨by simpa [u2] using h1, by show 0 ≤ _ + 1; omega, by simp [u2]; omega, by simp [u2, h2], by simp, fun _ => by simp [u2]; omega⟩
theorem MSt.e4 {t : Int → Int} {n : Int} {q : Int × Bool} {I : PF} (h : MSt t n (.inl q) I) (h2 : I 306 2 = skp t n q.1) : I 306 4 ≤ I 306 2 := by
  have g1 := skp_ge t n q.1
  obtain ⟨hp, h1, h3, h4', h5, h6, h7⟩ := h
  cases hq : q.2 with
  | true => rw [h6 hq]; omega
  | false => have := h7 hq; omega
theorem MSt.fail {t : Int → Int} {n : Int} {q : Int × Bool} {I : PF} {k : Int} (h : MSt t n (.inl q) I) (h2 : I 306 2 = skp t n q.1) (hk : k ≠ 0) (hr : inR k) : MSt t n (flt t n k (.inl q)) (u2 (u2 I 306 5 k) 306 6 (I 306 2)) := by
  obtain ⟨⟨p1, p2, p3, p4, p5, p6, p7, p8, p9⟩, h1, h3⟩ := h
  refine ⟨⟨?_, ?_, p3, p4, p5, ?_, ?_, ?_, ?_⟩, ?_, hk, ?_⟩
  all_goals grind [u2]
theorem FR_if {c : Prop} {d : Decidable c} {P : Int → Int → Prop} {I A B : PF} (h : FR P I A) (g : FR P I B) : FR P I (if c then A else B) := by
  by_cases x : c
  · rw [if_pos x]; exact h
  · rw [if_neg x]; exact g
noncomputable def askW (t : Int → Int) (n : Int) (f : Int → Int) (L : Int) (s : SA) : SA := @ite _ (atW t n f L s) (Classical.propDecidable _) (goW t n L s) (flt t n 1 s)
theorem askW_t {t : Int → Int} {n : Int} {f : Int → Int} {L : Int} {s : SA} (h : atW t n f L s) : askW t n f L s = goW t n L s := @if_pos _ (Classical.propDecidable _) h _ _ _
theorem askW_f {t : Int → Int} {n : Int} {f : Int → Int} {L : Int} {s : SA} (h : ¬ atW t n f L s) : askW t n f L s = flt t n 1 s := @if_neg _ (Classical.propDecidable _) h _ _ _
def takS (t : Int → Int) (n c : Int) (s : SA) : SA := if nxt t n s = c then goS t n s else s
def askS (t : Int → Int) (n c : Int) (s : SA) : SA := if nxt t n s = c then goS t n s else flt t n 1 s
theorem c_takes {X : CX} {I R : PF} {t : Int → Int} {n a1 : Int} {s : SA} (hs : Shp R) (hM : MSt t n s I) (hw : WA I a1) :
    CN X 3 mX11_takes [(2, 306), (2, a1)] I R (fun v I' R' => v.2 = bi (atW t n (I a1) (ln MF a1) s) ∧ MSt t n (afW t n (I a1) (ln MF a1) s) I' ∧ FR mRd I I' ∧ R' = R ∧ (∀ q, s = .inl q → ¬ atW t n (I a1) (ln MF a1) s → I' 306 2 = skp t n q.1)) := by
  refine callee_b (by decide +kernel) (Nat.le_of_ble_eq_true rfl) rfl ?_
  refine S_X11_takes_0 (d1 := 2) (by omega) (c_here hs hM hw) (fun z I2 R2 q => ?_)
  obtain ⟨(q1 : z = _), q2, q3, rfl, q4⟩ := q
  have hb := bi_r (atW t n (I a1) (ln MF a1) s)
  refine S_X11_takes_5 (by omega) (fun g => ?_) (fun g => ?_)
  · have hat := bi_1 (fun c => g (q1.trans c))
    cases s with
    | inr f => exact hat.elim
    | inl q =>
      have e := q4 q rfl
      have hat' := hat
      obtain ⟨a1', a2, a3, a4, a5⟩ := hat'
      have rl := run_le (f := isL) (t := t) (n := n) (p := skp t n q.1) (by omega)
      refine S_X11_takes_10 hw.1 (by have := hw.2.1; omega) ⟨(bi_t hat).symm, ?_, ?_, rfl, fun q' _ c => absurd hat c⟩
      · rw [afW_t hat]
        exact q2.taken e hw.2.2.2.2 (by omega)
      · exact q3.tr ((FR_u2 ⟨rfl, Or.inl rfl⟩).tr (FR_u2 ⟨rfl, Or.inr (Or.inl rfl)⟩))
  · have hat := bi_0 (q1.symm.trans g)
    exact S_X11_takes_8 ⟨(bi_f hat).symm, by rw [afW_f hat]; exact q2, q3, rfl, fun q' h _ => q4 q' h⟩
theorem c_asks {X : CX} {I R : PF} {t : Int → Int} {n a1 : Int} {s : SA} (hs : Shp R) (hM : MSt t n s I) (hw : WA I a1) :
    CN X 4 mX11_asks [(2, 306), (2, a1)] I R (fun v I' R' => MSt t n (askW t n (I a1) (ln MF a1) s) I' ∧ FR mRd I I' ∧ R' = R) := by
  refine callee_b (by decide +kernel) (Nat.le_of_ble_eq_true rfl) rfl ?_
  refine S_X11_asks_0 hM.r5 (fun g => ?_) (fun g => ?_)
  · cases s with
    | inl q => exact absurd hM.ok g
    | inr f => exact S_X11_asks_24 ⟨by rw [askW_f (s := .inr f) (fun c => c)]; exact hM, FR.rf, rfl⟩
  cases s with
  | inr f => exact absurd g hM.bad
  | inl q =>
  refine S_X11_asks_7 (d1 := 3) (by omega) (c_takes hs hM hw) (fun z I2 R2 qq => ?_)
  obtain ⟨(q1 : z = _), q2, q3, rfl, q4⟩ := qq
  have hb := bi_r (atW t n (I a1) (ln MF a1) (.inl q))
  refine S_X11_asks_12 (by omega) (fun g => ?_) (fun g => ?_)
  · have hat := bi_1 (fun c => g (q1.trans c))
    rw [afW_t hat] at q2
    exact S_X11_asks_24 ⟨by rw [askW_t hat]; exact q2, q3, rfl⟩
  · have hat := bi_0 (q1.symm.trans g)
    rw [afW_f hat] at q2
    have e := q4 q rfl hat
    refine S_X11_asks_15 (d1 := 1) (by omega) (c_fail q2.r5) (fun z3 I3 R3 q5 => ?_)
    obtain ⟨q6, rfl⟩ := q5
    rw [if_pos q2.ok] at q6
    subst q6
    refine S_X11_asks_24 ⟨by rw [askW_f hat]; exact q2.fail e (by decide) (by decide), ?_, rfl⟩
    exact q3.tr ((FR_u2 ⟨rfl, by decide⟩).tr (FR_u2 ⟨rfl, by decide⟩))
theorem lkv_n {t : Int → Int} {n a c : Int} (h : lkv t n a = c) (hc : c ≠ -1) : a < n := by
  unfold lkv at h
  by_cases g : a < n
  · exact g
  · rw [if_neg g] at h; omega
theorem lkv_r {t : Int → Int} {n a : Int} {I : PF} (h : PT t n I) (h0 : 0 ≤ a) : -1 ≤ lkv t n a ∧ lkv t n a ≤ 255 := by
  unfold lkv
  obtain ⟨h1, h2, h3, h4, h5, h6, h7, h8, h9⟩ := h
  split
  · have := h5 a h0 (by omega); omega
  · omega
/-- the model's look -/
theorem c_look2 {X : CX} {I R : PF} {t : Int → Int} {n : Int} {q : Int × Bool} (hs : Shp R) (hM : MSt t n (.inl q) I) :
    CN X 1 mX11_look [(2, 306)] I R (fun v I' R' => v.2 = nxt t n (.inl q) ∧ MSt t n (.inl q) I' ∧ I' 306 2 = skp t n q.1 ∧ FR mRd I I' ∧ R' = R) := by
  refine (c_look hs hM.1).mono (fun v I' R' h => ?_)
  obtain ⟨h1, h2, h3⟩ := h
  have e := hM.look
  subst h2 h3
  refine ⟨?_, e.1, e.2.1, FR_u2 ⟨rfl, Or.inl rfl⟩, rfl⟩
  rw [h1]
  show lkv t n _ = lkv t n _
  rw [hM.2.2.2.2.1]
theorem c_takesSign {X : CX} {I R : PF} {t : Int → Int} {n c : Int} {s : SA} (hs : Shp R) (hM : MSt t n s I) (hc : 0 ≤ c ∧ c < 256) :
    CN X 2 mX11_takesSign [(2, 306), (0, c)] I R (fun v I' R' => v.2 = bi (nxt t n s = c) ∧ MSt t n (takS t n c s) I' ∧ FR mRd I I' ∧ R' = R ∧ (∀ q, s = .inl q → I' 306 2 = skp t n q.1 + v.2)) := by
  refine callee_b (by decide +kernel) (Nat.le_of_ble_eq_true rfl) rfl ?_
  refine S_X11_takesSign_0 hM.r5 (fun g => ?_) (fun g => ?_)
  · cases s with
    | inl q => exact absurd hM.ok g
    | inr f => exact S_X11_takesSign_15 ⟨(bi_f (fun c' => by change -1 = c at c'; omega)).symm, by unfold takS; rw [if_neg (fun c' => by change -1 = c at c'; omega)]; exact hM, FR.rf, rfl, fun q h => by cases h⟩
  cases s with
  | inr f => exact absurd g hM.bad
  | inl q =>
  refine S_X11_takesSign_7 (d1 := 1) (by omega) (c_look2 hs hM) (fun z I2 R2 qq => ?_)
  obtain ⟨(q1 : z = _), q2, q3, q4, rfl⟩ := qq
  have hr := lkv_r hM.1 (a := skp t n q.1) (by have := skp_ge t n q.1; have := hM.2.2.1; omega)
  have hr' : -1 ≤ nxt t n (.inl q) ∧ nxt t n (.inl q) ≤ 255 := hr
  refine S_X11_takesSign_11 (by omega) (by omega) (fun g => ?_) (fun g => ?_)
  · have hn := lkv_n (t := t) (n := n) (a := skp t n q.1) (c := c) (q1.symm.trans g) (by omega)
    refine S_X11_takesSign_17 ⟨(bi_t (q1.symm.trans g)).symm, ?_, q4.tr (FR_u2 ⟨rfl, Or.inl rfl⟩), rfl, fun q' h => ?_⟩
    · unfold takS; rw [if_pos (q1.symm.trans g)]
      exact q2.signed q3 hn (q2.e4 q3)
    · cases h; rw [u2_at, q3]
  · have hat : nxt t n (.inl q) ≠ c := fun c' => g (q1.trans c')
    refine S_X11_takesSign_15 ⟨(bi_f hat).symm, by unfold takS; rw [if_neg hat]; exact q2, q4, rfl, fun q' h => ?_⟩
    cases h; rw [q3]; show _ = _ + 0; omega
theorem c_asksSign {X : CX} {I R : PF} {t : Int → Int} {n c : Int} {s : SA} (hs : Shp R) (hM : MSt t n s I) (hc : 0 ≤ c ∧ c < 256) :
    CN X 3 mX11_asksSign [(2, 306), (0, c)] I R (fun v I' R' => MSt t n (askS t n c s) I' ∧ FR mRd I I' ∧ R' = R) := by
  refine callee_b (by decide +kernel) (Nat.le_of_ble_eq_true rfl) rfl ?_
  refine S_X11_asksSign_0 hM.r5 (fun g => ?_) (fun g => ?_)
  · cases s with
    | inl q => exact absurd hM.ok g
    | inr f => exact S_X11_asksSign_24 ⟨by unfold askS; rw [if_neg (fun c' => by change -1 = c at c'; omega)]; exact hM, FR.rf, rfl⟩
  cases s with
  | inr f => exact absurd g hM.bad
  | inl q =>
  refine S_X11_asksSign_7 (d1 := 2) (by omega) (c_takesSign hs hM hc) (fun z I2 R2 qq => ?_)
  obtain ⟨(q1 : z = _), q2, q3, rfl, q4⟩ := qq
  have q4 := q4 q rfl
  have hb := bi_r (nxt t n (.inl q) = c)
  refine S_X11_asksSign_12 (by omega) (fun g => ?_) (fun g => ?_)
  · have hat := bi_1 (fun c => g (q1.trans c))
    unfold takS at q2; rw [if_pos hat] at q2
    exact S_X11_asksSign_24 ⟨by unfold askS; rw [if_pos hat]; exact q2, q3, rfl⟩
  · have hat := bi_0 (q1.symm.trans g)
    unfold takS at q2; rw [if_neg hat] at q2
    have e : I2 306 2 = skp t n q.1 := by rw [q4]; show _ + z = _; omega
    refine S_X11_asksSign_15 (d1 := 1) (by omega) (c_fail q2.r5) (fun z3 I3 R3 q5 => ?_)
    obtain ⟨q6, rfl⟩ := q5
    rw [if_pos q2.ok] at q6
    subst q6
    refine S_X11_asksSign_24 ⟨by unfold askS; rw [if_neg hat]; exact q2.fail e (by decide) (by decide), ?_, rfl⟩
    exact q3.tr ((FR_u2 ⟨rfl, by decide⟩).tr (FR_u2 ⟨rfl, by decide⟩))
