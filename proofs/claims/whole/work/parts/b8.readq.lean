/-! ===== the class reads a question ===== -/
theorem wd_k {t : Int → Int} {n w : Int} (hw : 2 ≤ w ∧ w ≤ 37) : twd t n (skp t n 0) = w ↔ tw t n (.inl (0, false)) = sW 0 w := by
  constructor
  · intro h
    refine (tok_word (q := (0, false)) hw).mp ⟨?_, h⟩
    show knd t n (0, false) = 1
    unfold twd at h
    unfold knd
    by_cases c : skp t n 0 < n
    · rw [if_pos c] at h ⊢
      by_cases c2 : isL (t (skp t n 0)) = true
      · rw [if_pos c2, if_neg (fun d => absurd d.1 (by decide))]
      · rw [if_neg c2] at h; omega
    · rw [if_neg c] at h; omega
  · intro h
    exact ((tok_word (q := (0, false)) hw).mpr h).2
theorem kQ_t (t : Int → Int) (n : Int) : (kQ t n = 6 ∧ twd t n (skp t n 0) < 32) ∨ (0 ≤ kQ t n ∧ kQ t n < 6 ∧ twd t n (skp t n 0) = 32 + kQ t n) := by
  have r := twd_r t n (skp t n 0)
  have e := fun w hw => @wd_k t n w hw
  unfold kQ
  by_cases c0 : twd t n (skp t n 0) = 32
  · rw [if_pos ((e 32 (by decide)).mp c0)]; omega
  rw [if_neg (fun k => c0 ((e 32 (by decide)).mpr k))]
  by_cases c1 : twd t n (skp t n 0) = 33
  · rw [if_pos ((e 33 (by decide)).mp c1)]; omega
  rw [if_neg (fun k => c1 ((e 33 (by decide)).mpr k))]
  by_cases c2 : twd t n (skp t n 0) = 34
  · rw [if_pos ((e 34 (by decide)).mp c2)]; omega
  rw [if_neg (fun k => c2 ((e 34 (by decide)).mpr k))]
  by_cases c3 : twd t n (skp t n 0) = 35
  · rw [if_pos ((e 35 (by decide)).mp c3)]; omega
  rw [if_neg (fun k => c3 ((e 35 (by decide)).mpr k))]
  by_cases c4 : twd t n (skp t n 0) = 36
  · rw [if_pos ((e 36 (by decide)).mp c4)]; omega
  rw [if_neg (fun k => c4 ((e 36 (by decide)).mpr k))]
  by_cases c5 : twd t n (skp t n 0) = 37
  · rw [if_pos ((e 37 (by decide)).mp c5)]; omega
  rw [if_neg (fun k => c5 ((e 37 (by decide)).mpr k))]
  omega
/-- the class's cells behind a question -/
def CQ (r : (Int × List Int) ⊕ (Int × Int)) (v : Int) (I : PF) : Prop := match r with
  | .inl y => v = 32 + y.1 ∧ I 67 8 = 0 ∧ I 67 9 = -1 ∧ Stk I 69 (y.2.map dc) (I 68 2) ∧ (y.2.length : Int) ≤ 1600
  | .inr f => I 67 8 = f.1 ∧ f.1 ≠ 0 ∧ I 67 9 = f.2
def rQ (x y : Int) : Prop := (x = 67 ∧ 1 ≤ y ∧ y ≤ 9) ∨ (x = 71 ∧ (y = 2 ∨ y = 3)) ∨ (x = 68 ∧ y = 2) ∨ x = 69
theorem sF_rQ {I J : PF} (f : FR sF I J) : FR rQ I J := f.mono (fun x y c => Or.inl ⟨c.1, by have := c.2.1; omega, c.2.2⟩)
theorem dF_rQ {I J : PF} (f : FR (dF 68) I J) : FR rQ I J := f.mono (fun x y c => by
  rcases c with c | c | c | c
  · exact Or.inl ⟨c.1, by have := c.2.1; omega, c.2.2⟩
  · exact Or.inr (Or.inl c)
  · exact Or.inr (Or.inr (Or.inl c))
  · exact Or.inr (Or.inr (Or.inr c)))
noncomputable def quF (t : Int → Int) (n k : Int) : RD → (Int × List Int) ⊕ (Int × Int)
  | .inl y => if nxt t n (.inl y.1) = -1 then .inl (k, y.2) else .inr (1, skp t n y.1.1)
  | .inr f => .inr f
theorem quR_q {t : Int → Int} {n : Int} {K : Nat} (h : kQ t n ≠ 6) : quR t n K = quF t n (kQ t n) (if kQ t n < 3 then tstF t n 2 K (q1Q t n) else sumF t n 2 K (q1Q t n)) := by
  unfold quR
  rw [if_neg h]
  generalize (if kQ t n < 3 then tstF t n 2 K (q1Q t n) else sumF t n 2 K (q1Q t n)) = r
  cases r <;> rfl
theorem c_readQuestion {X : CX} {I R : PF} {t : Int → Int} {n : Int} {K : Nat} (hs : Shp R) (h65 : I 65 = t) (hn : 0 ≤ n ∧ n ≤ 1600) (hT : ∀ j, 0 ≤ j → j < 1600 → 0 ≤ t j ∧ t j ≤ 255) (hK : n < K) :
    CN X 36 mX3_readQuestion [(2, 71), (0, n), (2, 68)] I R (fun v I' R' => v.1 = 2 ∧ CQ (quR t n K) v.2 I' ∧ FR rQ I I' ∧ FR dR R R') := by
  refine callee_b (by decide +kernel) (Nat.le_of_ble_eq_true rfl) rfl ?_
  refine S_X3_readQuestion_0 (d1 := 2) hs (by omega) (c_start hs h65 hn hT) (fun z I1 R1 p => ?_)
  obtain ⟨d1, f1, g1⟩ := p
  have hs1 : Shp R1 := hs.fr (dR_mR (sR_dR g1))
  have F1 : FR rQ I I1 := f1.mono (fun x y c => Or.inl c)
  have kt := kQ_t t n
  have tr := twd_r t n (skp t n 0)
  have r6 : R1 67 6 = twd t n (skp t n 0) := d1.1.2.2.2.2.2.2.2
  have at3 : I1 67 3 = skp t n 0 := d1.1.2.2.2.1
  generalize hw : twd t n (skp t n 0) = w at *
  -- behind the first word
  have go100 : ∀ b : Int, kQ t n < 6 → (b ≠ 0 ↔ kQ t n < 3) → (b = 0 ∨ b = 1) → PN X 36 mX3_readQuestion 100 [(2, 71), (9, 0), (2, 68), (2, w), (0, b)] [] I1 R1 (fun v I' R' => v.1 = 2 ∧ CQ (quR t n K) v.2 I' ∧ FR rQ I I' ∧ FR dR R R') := fun b h6 hb hb01 => by
    have ew : w = 32 + kQ t n := by omega
    have htw : tw t n (.inl (0, false)) = sW 0 w := (wd_k (by omega)).mp hw
    refine S_X3_readQuestion_100 (d1 := 1) hs1 (by omega) (c_advW hs1 d1 htw (sW_ne (by omega))) (fun z I2 R2 p => ?_)
    obtain ⟨d2, -, f2, g2⟩ := p
    have d2 : DSt t n (.inl (q1Q t n)) I2 R2 := d2
    have hs2 : Shp R2 := hs1.fr (dR_mR (sR_dR g2))
    have F2 : FR rQ I I2 := F1.tr (sF_rQ f2)
    have G2 : FR dR R R2 := (sR_dR g1).tr (sR_dR g2)
    -- the end
    have fin : ∀ (v : Int) (J S : PF), DRes t n 68 (if kQ t n < 3 then tstF t n 2 K (q1Q t n) else sumF t n 2 K (q1Q t n)) v J S → FR (dF 68) I2 J → FR dR R2 S → PN X 36 mX3_readQuestion 127 [(2, 71), (9, 0), (9, 0), (2, w)] [(0, v)] J S (fun v I' R' => v.1 = 2 ∧ CQ (quR t n K) v.2 I' ∧ FR rQ I I' ∧ FR dR R R') := fun v J S hD f g => by
      have hsS : Shp S := hs2.fr (dR_mR g)
      have FJ : FR rQ I J := F2.tr (dF_rQ f)
      have GJ : FR dR R S := G2.tr g
      generalize hr : (if kQ t n < 3 then tstF t n 2 K (q1Q t n) else sumF t n 2 K (q1Q t n)) = r at hD
      have eq : quR t n K = quF t n (kQ t n) r := by rw [quR_q (by omega), hr]
      cases r with
      | inr fl =>
        obtain ⟨v0, e8, e0, e9⟩ := hD
        refine S_X3_readQuestion_127 (by omega) (fun _ => S_X3_readQuestion_160 (by omega) ⟨rfl, ?_, FJ, GJ⟩) (fun g => absurd v0 g)
        rw [eq]; exact ⟨e0, e9⟩
      | inl y =>
        obtain ⟨v1, ed, es, el, el2⟩ := hD
        refine S_X3_readQuestion_127 (by omega) (fun g => by omega) (fun _ => ?_)
        refine S_X3_readQuestion_134 (d1 := 0) hsS (by omega) (c_isAtEnd ed.1) (fun z I4 R4 p => ?_)
        obtain ⟨(hz : z = _), rfl, rfl⟩ := p
        have b4 := bi_r (nxt t n (.inl y.1) = -1)
        refine S_X3_readQuestion_141 (by omega) (fun g4 => S_X3_readQuestion_160 (by omega) ⟨rfl, ?_, FJ, GJ⟩) (fun g4 => ?_)
        · have c := bi_1 (c := nxt t n (.inl y.1) = -1) (by rw [← hz]; exact g4)
          rw [eq]
          show CQ (if nxt t n (.inl y.1) = -1 then .inl (kQ t n, y.2) else .inr (1, skp t n y.1.1)) w I4
          rw [if_pos c]
          exact ⟨ew, ed.2.1, ed.2.2, es, el2⟩
        · have c := bi_0 (hz.symm.trans g4)
          have a3 : I4 67 3 = skp t n y.1.1 := ed.1.2.2.2.1
          refine S_X3_readQuestion_144 (d1 := 0) hsS (by omega) (c_refuse ed (by decide)) (fun z5 I5 R5 p => ?_)
          obtain ⟨-, p2, p3, rfl⟩ := p
          refine S_X3_readQuestion_159 (S_X3_readQuestion_160 (by omega) ⟨rfl, ?_, FJ.tr (sF_rQ p3), GJ⟩)
          rw [eq]
          show CQ (if nxt t n (.inl y.1) = -1 then .inl (kQ t n, y.2) else .inr (1, skp t n y.1.1)) w I5
          rw [if_neg c]
          obtain ⟨-, u8, u0, u9⟩ := p2
          exact ⟨u8, u0, u9.trans a3⟩
    refine S_X3_readQuestion_107 (by omega) (fun g => ?_) (fun g => ?_)
    · refine S_X3_readQuestion_121 (d1 := 31) (by omega) (c_readSum (tk := 2) (K := K) hs2 (by decide) hK kM68 d2) (fun z I3 R3 p => ?_)
      obtain ⟨p1, p2, p3⟩ := p
      exact fin z I3 R3 (by rw [if_neg (fun c => hb.mpr c g)]; exact p1) p2 p3
    · refine S_X3_readQuestion_112 (d1 := 34) (by omega) (c_readTest (tk := 2) (K := K) hs2 (by decide) hK kM68 d2) (fun z I3 R3 p => ?_)
      obtain ⟨p1, p2, p3⟩ := p
      exact S_X3_readQuestion_118 (fin z I3 R3 (by rw [if_pos (hb.mp g)]; exact p1) p2 p3)
  have go70 : ∀ b b2 : Int, (b ≠ 0 ↔ kQ t n < 3) → (b = 0 ∨ b = 1) → (b2 ≠ 0 ↔ (3 ≤ kQ t n ∧ kQ t n < 6)) → (b2 = 0 ∨ b2 = 1) → PN X 36 mX3_readQuestion 70 [(2, 71), (9, 0), (2, 68), (2, w), (0, b)] [(0, b2)] I1 R1 (fun v I' R' => v.1 = 2 ∧ CQ (quR t n K) v.2 I' ∧ FR rQ I I' ∧ FR dR R R') := fun b b2 hb hb01 hb2 hb201 => by
    refine S_X3_readQuestion_70 (by omega) (fun g => go100 b (by have := hb.mp g; omega) hb hb01) (fun g => S_X3_readQuestion_77 (by omega) (fun g2 => go100 b (hb2.mp g2).2 hb hb01) (fun g2 => ?_))
    have k6 : kQ t n = 6 := by
      by_cases c : kQ t n < 3
      · exact absurd g (hb.mpr c)
      · by_cases c2 : kQ t n < 6
        · exact absurd g2 (hb2.mpr ⟨by omega, c2⟩)
        · omega
    refine S_X3_readQuestion_82 (d1 := 0) hs1 (by omega) (c_refuse d1 (by decide)) (fun z I2 R2 p => ?_)
    obtain ⟨-, p2, p3, rfl⟩ := p
    refine S_X3_readQuestion_97 (by omega) ⟨rfl, ?_, F1.tr (sF_rQ p3), sR_dR g1⟩
    obtain ⟨-, u8, u0, u9⟩ := p2
    unfold quR
    rw [if_pos k6]
    exact ⟨u8, u0, u9.trans at3⟩
  have go42 : ∀ b : Int, (b ≠ 0 ↔ kQ t n < 3) → (b = 0 ∨ b = 1) → PN X 36 mX3_readQuestion 42 [(2, 71), (9, 0), (2, 68), (2, w)] [(0, b)] I1 R1 (fun v I' R' => v.1 = 2 ∧ CQ (quR t n K) v.2 I' ∧ FR rQ I I' ∧ FR dR R R') := fun b hb hb01 => by
    have yes : (3 ≤ kQ t n ∧ kQ t n < 6) → PN X 36 mX3_readQuestion 65 [(2, 71), (9, 0), (2, 68), (2, w), (0, b)] [] I1 R1 (fun v I' R' => v.1 = 2 ∧ CQ (quR t n K) v.2 I' ∧ FR rQ I I' ∧ FR dR R R') := fun c => S_X3_readQuestion_65 (go70 b 1 hb hb01 ⟨fun _ => c, fun _ => by decide⟩ (Or.inr rfl))
    refine S_X3_readQuestion_42 (by omega) (fun g => yes (by omega)) (fun g => S_X3_readQuestion_51 (by omega) (fun g2 => yes (by omega)) (fun g2 => S_X3_readQuestion_58 (by omega) (fun g3 => S_X3_readQuestion_69 (go70 b 0 hb hb01 ⟨fun c => absurd rfl c, fun c => by omega⟩ (Or.inl rfl))) (fun g3 => yes (by omega))))
  have yes : kQ t n < 3 → PN X 36 mX3_readQuestion 37 [(2, 71), (9, 0), (2, 68), (2, w)] [] I1 R1 (fun v I' R' => v.1 = 2 ∧ CQ (quR t n K) v.2 I' ∧ FR rQ I I' ∧ FR dR R R') := fun c => S_X3_readQuestion_37 (go42 1 ⟨fun _ => c, fun _ => by decide⟩ (Or.inr rfl))
  exact S_X3_readQuestion_8 hs1 r6 (by omega) (fun g => yes (by omega)) (fun g => S_X3_readQuestion_23 (by omega) (fun g2 => yes (by omega)) (fun g2 => S_X3_readQuestion_30 (by omega) (fun g3 => S_X3_readQuestion_41 (go42 0 ⟨fun c => absurd rfl c, fun c => by omega⟩ (Or.inl rfl))) (fun g3 => yes (by omega))))
