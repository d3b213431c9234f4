/-! ===== the class reads a whole text ===== -/
theorem stmL_f {t : Int → Int} {n : Int} {f : Int × Int} {D : PF} {c : Int} : ∀ k : Nat, (stmL t n k (.inr f) D c).1 = .inr f
  | 0 => rfl
  | k + 1 => by rw [stmL_unf, if_pos (show nxt t n (.inr f) = -1 from rfl)]
def dS (o x y : Int) : Prop := x = 67 ∨ (x = 71 ∧ (y = 2 ∨ y = 3)) ∨ sqC o x y
def dSR (x y : Int) : Prop := (x = 67 ∧ y = 6) ∨ (x = 71 ∧ y = 1) ∨ (x = 110 ∧ y = 2)
theorem dSR_mR {R R' : PF} (h : FR dSR R R') : FR mR R R' := h.mono (fun x y c => by unfold dSR at c; unfold mR; omega)
theorem dP_S {o : Int} {I J : PF} (h : FR (dP o) I J) : FR (dS o) I J := h.mono (fun x y c => by
  unfold dP sF qC at c
  unfold dS sqC
  omega)
theorem dR_S {I J : PF} (h : FR dR I J) : FR dSR I J := h.mono (fun x y c => by unfold dR at c; unfold dSR; omega)
/-- what reading a text leaves in the class's square o -/
def RdR (r : SA × PF × Int) (o v : Int) (I : PF) : Prop := match r.1 with
  | .inl _ => v = r.2.2 ∧ QR r.2.1 o I ∧ GD r.2.1 ∧ LR r.2.1 o I ∧ I 67 8 = 0 ∧ I 67 9 = -1
  | .inr f => v = -1 ∧ I 67 8 = f.1 ∧ f.1 ≠ 0 ∧ I 67 9 = f.2
theorem RdR.bad {r : SA × PF × Int} {t : Int → Int} {n o : Int} {f : Int × Int} {I R : PF} (e : r.1 = .inr f) (h : DSt t n (.inr f) I R) : RdR r o (-1) I := by
  unfold RdR; rw [e]; exact ⟨rfl, h.2.1, h.2.2.1, h.2.2.2⟩
def sIn (r : SA × PF × Int) : Prop := ∀ q, r.1 = .inl q → 1 ≤ r.2.2 ∧ r.2.2 ≤ 60
theorem rd_loop {X : CX} {d : Nat} {Q : PV → PF → PF → Prop} {t : Int → Int} {n o : Int} {I0 R0 : PF} (hd : 36 ≤ d) : ∀ (k : Nat) (q : Int × Bool) (D : PF) (c : Int) (I R : PF), (61 - c).toNat < k → 1 ≤ c → c ≤ 60 → Shp R → QG t n (.inl q) D o I R → D 306 53 ≤ q.1 → FR (dP o) I0 I → FR dR R0 R →
    (∀ v I' R', RdR (stmL t n k (.inl q) D c) o v I' → sIn (stmL t n k (.inl q) D c) → FR (dP o) I0 I' → FR dR R0 R' → Q (0, v) I' R') → PN X d mX7_read 34 [(2, 110), (9, 0), (9, 0), (0, c), (0, c)] [] I R Q := by
  intro k
  induction k with
  | zero => intro q D c I R h; exact absurd h (Nat.not_lt_zero _)
  | succ k ih =>
    intro q D c I R h c1 c6 hs hG h53 hf hr hQ
    rw [stmL_unf] at hQ
    have hk := hG.2.2.1
    have ho := sq_o hk
    have tok := hG.1.1
    have br := bi_r (nxt t n (.inl q) = -1)
    -- at its end or not
    have tail : PN X d mX7_read 69 [(2, 110), (9, 0), (9, 0), (0, c)] [] I R Q ∨ nxt t n (.inl q) ≠ -1 := by
      by_cases e : nxt t n (.inl q) = -1
      · left
        rw [if_pos e] at hQ
        refine S_X7_read_69 (d1 := 0) hs (by omega) (c_isAtEnd tok) (fun z I1 R1 p => ?_)
        obtain ⟨(hz : z = _), rfl, rfl⟩ := p
        refine S_X7_read_76 (by omega) (fun _ => ?_) (fun g => absurd e (bi_0 (hz.symm.trans g)))
        refine S_X7_read_97 (d1 := 3) hG.2.1 (by omega) (c_aim hs hk hG.2.2.2.1 hG.2.2.2.2) hk (fun z I2 R2 p => ?_)
        obtain ⟨p1, p2, p3, rfl⟩ := p
        refine S_X7_read_104 (hQ c I2 R2 ⟨rfl, p1, hG.2.2.2.2, p2, ?_, ?_⟩ (fun q e => ⟨c1, c6⟩) (hf.tr (p3.mono (fun x y c => Or.inr (Or.inr (Or.inl ⟨by omega, by omega⟩))))) hr)
        · rw [p3 67 8 (by omega)]; exact hG.1.2.1
        · rw [p3 67 9 (by omega)]; exact hG.1.2.2
      · exact Or.inr e
    have full : nxt t n (.inl q) ≠ -1 → c = 60 → PN X d mX7_read 69 [(2, 110), (9, 0), (9, 0), (0, c)] [] I R Q := fun e e60 => by
      rw [if_neg e] at hQ
      have es : stmS t n D c (.inl q) = .inr (5, skp t n q.1) := by unfold stmS; rw [if_pos e60]; rfl
      rw [es] at hQ
      refine S_X7_read_69 (d1 := 0) hs (by omega) (c_isAtEnd tok) (fun z I1 R1 p => ?_)
      obtain ⟨(hz : z = _), rfl, rfl⟩ := p
      refine S_X7_read_76 (by omega) (fun g => absurd (bi_1 (by rw [← hz]; exact g)) e) (fun _ => ?_)
      refine S_X7_read_79 (d1 := 0) hs (by omega) (c_refuse hG.1 (by decide)) (fun z I2 R2 p => ?_)
      obtain ⟨p1, p2, p3, rfl⟩ := p
      rw [tok.2.2.2.1] at p2
      exact S_X7_read_94 (hQ (-1) I2 R2 (RdR.bad (stmL_f k) p2) (fun q e => by rw [stmL_f k] at e; cases e) (hf.tr (sF_P p3)) hr)
    refine S_X7_read_34 (by omega) (fun g => ?_) (fun g => ?_)
    · rcases tail with h1 | h1
      · exact h1
      · exact full h1 (by omega)
    refine S_X7_read_41 (d1 := 0) hs (by omega) (c_isAtEnd tok) (fun z I1 R1 p => ?_)
    obtain ⟨(hz : z = _), rfl, rfl⟩ := p
    refine S_X7_read_48 (by omega) (fun g2 => ?_) (fun g2 => ?_)
    · rcases tail with h1 | h1
      · exact h1
      · exact absurd (bi_1 (by rw [← hz]; exact g2)) h1
    have e := bi_0 (hz.symm.trans g2)
    rw [if_neg e] at hQ
    refine S_X7_read_51 (d1 := 35) (by omega) (c_readStatement (c := c) hs hG (by omega) h53) (fun z I2 R2 p => ?_)
    obtain ⟨p1, p2, p3⟩ := p
    have hs2 := hs.fr (dR_mR p3)
    rcases p1.sign with ⟨(z0 : z = 0), f, e1, e2⟩ | ⟨(z1 : z = 1), q', e1, e2⟩
    · rw [e1] at hQ
      refine S_X7_read_55 (by omega) (fun g => absurd z0 g) (fun _ => ?_)
      exact S_X7_read_58 (hQ (-1) I2 R2 (RdR.bad (stmL_f k) e2) (fun q e => by rw [stmL_f k] at e; cases e) (hf.tr p2) (hr.tr p3))
    · obtain ⟨b1, b2⟩ := stm_le e1 h53
      rw [e1] at hQ
      refine S_X7_read_55 (by omega) (fun _ => ?_) (fun g => by omega)
      exact S_X7_read_60 (ih q' _ (c + 1) I2 R2 (by omega) (by omega) (by omega) hs2 e2 b2 (hf.tr p2) (hr.tr p3) hQ)
theorem c_read {X : CX} {I R : PF} {t : Int → Int} {n o : Int} {D : PF} (hs : Shp R) (h65 : I 65 = t) (hn : 0 ≤ n ∧ n ≤ 1600) (hT : ∀ j, 0 ≤ j → j < 1600 → 0 ≤ t j ∧ t j ≤ 255) (hk : kd MF o = 6) :
    CN X 36 mX7_read [(2, 110), (0, n), (2, o)] I R (fun v I' R' => RdR (sgR t n D) o v.2 I' ∧ sIn (sgR t n D) ∧ I' (o + 11) 0 = 0 ∧ I' (o + 11) 1 = -1 ∧ I' (o + 11) 2 = 0 ∧ FR (dS o) I I' ∧ FR dSR R R') := by
  have eR : sgR t n D = stmL t n 61 (sgZ t n) (sgD t n (D0 D)) 1 := rfl
  rw [eR]
  refine callee_b (by decide +kernel) (Nat.le_of_ble_eq_true rfl) rfl ?_
  have ho := sq_o hk
  have r0 : FR dSR R (u2 R 110 2 o) := FR_u2 (Or.inr (Or.inr ⟨rfl, rfl⟩))
  have hs0 := hs.fr (dSR_mR r0)
  refine S_X7_read_0 (d1 := 1) u2_at (by omega) (c_clearQ hs0 hk) hk (fun z I1 R1 p => ?_)
  obtain ⟨p1, p2, p3, p4, p5, rfl⟩ := p
  have hr110 : (u2 R 110 2 o) 110 2 = o := u2_at
  generalize u2 R 110 2 o = R1 at r0 hs0 hr110
  have e65 : I1 65 = t := by rw [← h65]; funext j; exact p5 65 j (fun c => by unfold sqC at c; omega)
  refine S_X7_read_12 (d1 := 2) hs0 (by omega) (c_start hs0 e65 hn hT) (fun z I2 R2 p => ?_)
  obtain ⟨q1, q2, q3⟩ := p
  have hs2 := hs0.fr (sR_mR q3)
  have hr2 : R2 110 2 = o := (q3 110 2 (fun c => by unfold sR at c; omega)).trans hr110
  have cl2 : CL o I2 := p1.fr ho (q2.mono (fun x y c => Or.inl c.1))
  have f2 : FR (dS o) I I2 := (p5.mono (fun x y c => Or.inr (Or.inr c))).tr (q2.mono (fun x y c => Or.inl c.1))
  have st2 : I2 (o + 11) 0 = 0 ∧ I2 (o + 11) 1 = -1 ∧ I2 (o + 11) 2 = 0 := by
    rw [q2 _ _ (fun c => by omega), q2 _ _ (fun c => by omega), q2 _ _ (fun c => by omega)]; exact ⟨p2, p3, p4⟩
  refine S_X7_read_20 (d1 := 3) (by omega) (c_readSquare (D := D) hs2 q1 hr2 hk cl2) (fun z I3 R3 p => ?_)
  obtain ⟨k1, k2, k3⟩ := p
  have hs3 := hs2.fr (sR_mR k3)
  have st3 : I3 (o + 11) 0 = 0 ∧ I3 (o + 11) 1 = -1 ∧ I3 (o + 11) 2 = 0 := by
    rw [k2 _ _ (fun c => by unfold sW4 at c; omega), k2 _ _ (fun c => by unfold sW4 at c; omega), k2 _ _ (fun c => by unfold sW4 at c; omega)]; exact st2
  have f3 : FR (dS o) I I3 := f2.tr (k2.mono (fun x y c => by unfold sW4 at c; unfold dS sqC; omega))
  have r3 : FR dSR R R3 := (r0.tr (q3.mono (fun x y c => Or.inl c))).tr (k3.mono (fun x y c => Or.inl c))
  rcases k1.sign with ⟨(z0 : z = 0), f, e1, e2⟩ | ⟨(z1 : z = 1), q', e1, e2⟩
  · rw [e1]
    refine S_X7_read_24 (by omega) (fun g => absurd z0 g) (fun _ => ?_)
    exact S_X7_read_27 ⟨RdR.bad (stmL_f 61) e2, (fun q e => by rw [stmL_f 61] at e; cases e), st3.1, st3.2.1, st3.2.2, f3, r3⟩
  · rw [e1]
    refine S_X7_read_24 (by omega) (fun _ => ?_) (fun g => by omega)
    have h53 : sgD t n (D0 D) 306 53 ≤ q'.1 := by
      have e0 : sgD t n (D0 D) 306 53 = 0 := by simp [sgD, D0, u2]
      have := e2.1.1.2.1
      omega
    refine S_X7_read_29 (rd_loop (I0 := I3) (R0 := R3) (by decide) 61 q' _ 1 I3 R3 (by decide) (by decide) (by decide) hs3 e2 h53 FR.rf FR.rf (fun v I' R' a b c d => ?_))
    refine ⟨a, b, ?_, ?_, ?_, f3.tr (dP_S c), r3.tr (dR_S d)⟩
    · rw [c _ _ (fun c => by unfold dP sF qC at c; omega)]; exact st3.1
    · rw [c _ _ (fun c => by unfold dP sF qC at c; omega)]; exact st3.2.1
    · rw [c _ _ (fun c => by unfold dP sF qC at c; omega)]; exact st3.2.2
