/-! ===== the class reads facts and tests ===== -/
theorem d_part {X : CX} {t : Int → Int} {n tk f : Int} {K : Nat} (ht : 0 ≤ tk ∧ tk ≤ 2) (hK : n < K) : ∀ b : Nat, b ≤ 6 → RCon X t n tk f b (4 + 4 * b) mX3_part (partR t n tk K b)
  | 0, _ => c_part (d := 2) (dP := 0) ht (by decide) (Or.inr ⟨rfl, rfl⟩) (by decide) (by decide)
  | b + 1, hb => by
    have ih := d_part (X := X) (t := t) (n := n) (tk := tk) (f := f) (K := K) ht hK b (by omega)
    have hS := c_sum hK (c_product hK ih (by omega)) (by omega)
    have e : ((b + 1 : Nat) : Int) - 1 = b := by omega
    have := c_part (ok := true) (d := 4 + 4 * b + 1 + 1) (dP := 4 + 4 * b) (f := f) (b := ((b + 1 : Nat) : Int)) ht (by omega) (Or.inl ⟨rfl, by omega, by rw [e]; exact hS, by rw [e]; exact ih⟩) (by omega) (by omega)
    exact this
theorem d_sum {X : CX} {t : Int → Int} {n tk f : Int} {K : Nat} (ht : 0 ≤ tk ∧ tk ≤ 2) (hK : n < K) (b : Nat) (hb : b ≤ 6) : RCon X t n tk f b (6 + 4 * b) mX3_sum (sumR t n K (partR t n tk K b)) := by
  have := c_sum hK (c_product hK (d_part (X := X) (t := t) (f := f) ht hK b hb) (by omega)) (by omega)
  rw [show 6 + 4 * b = 4 + 4 * b + 1 + 1 by omega]
  exact this
theorem c_comparing {X : CX} {I R : PF} {t : Int → Int} {n tk f : Int} {q : Int × Bool} {C : List Int} {b : Int} (hs : Shp R) (h : FC t n tk f q C b I R) :
    CN X 1 mX3_comparing [(2, 71)] I R (fun v I' R' => v.2 = (if nxt t n (.inl q) = 60 then -26 else if nxt t n (.inl q) = 62 then -27 else if nxt t n (.inl q) = 61 then -28 else -1) ∧ I' = I ∧ R' = R) := by
  refine callee_b (by decide +kernel) (Nat.le_of_ble_eq_true rfl) rfl ?_
  have tok := h.1.1
  refine S_X3_comparing_0 (d1 := 0) hs (by omega) (c_isSign tok (c := 60) (by unfold sgn; omega) (by decide)) (fun z I3 R3 q2 => ?_)
  obtain ⟨(hz : z = _), rfl, rfl⟩ := q2
  have br := bi_r (nxt t n (.inl q) = 60)
  refine S_X3_comparing_9 (by omega) (fun g => ?_) (fun g => ?_)
  rotate_left
  · rw [if_pos (bi_1 (by rw [← hz]; exact g))]; exact S_X3_comparing_12 ⟨rfl, rfl, rfl⟩
  rw [if_neg (bi_0 (hz.symm.trans g))]
  refine S_X3_comparing_15 (d1 := 0) hs (by omega) (c_isSign tok (c := 62) (by unfold sgn; omega) (by decide)) (fun z I3 R3 q2 => ?_)
  obtain ⟨(hz : z = _), rfl, rfl⟩ := q2
  have br := bi_r (nxt t n (.inl q) = 62)
  refine S_X3_comparing_24 (by omega) (fun g => ?_) (fun g => ?_)
  rotate_left
  · rw [if_pos (bi_1 (by rw [← hz]; exact g))]; exact S_X3_comparing_27 ⟨rfl, rfl, rfl⟩
  rw [if_neg (bi_0 (hz.symm.trans g))]
  refine S_X3_comparing_30 (d1 := 0) hs (by omega) (c_isSign tok (c := 61) (by unfold sgn; omega) (by decide)) (fun z I3 R3 q2 => ?_)
  obtain ⟨(hz : z = _), rfl, rfl⟩ := q2
  have br := bi_r (nxt t n (.inl q) = 61)
  refine S_X3_comparing_39 (by omega) (fun g => ?_) (fun g => ?_)
  · rw [if_neg (bi_0 (hz.symm.trans g))]; exact S_X3_comparing_47 (S_X3_comparing_48 ⟨rfl, rfl, rfl⟩)
  · rw [if_pos (bi_1 (by rw [← hz]; exact g))]; exact S_X3_comparing_42 (S_X3_comparing_48 ⟨rfl, rfl, rfl⟩)
theorem both_lp {X : CX} {d : Nat} {t : Int → Int} {n tk f b m q0 : Int} {I0 R0 : PF} {K : Nat} {p : (Int × Bool) → List Int → RD} (hp : RCon X t n tk f b d mX3_fact p) (hd2 : 1 ≤ d) : ∀ (k : Nat) (q : Int × Bool) (C : List Int) (x1 : Int) (I R : PF), (n - q.1).toNat < k → Shp R → FC t n tk f q C b I R → 0 ≤ m → (C.length : Int) + m ≤ q.1 → q0 ≤ q.1 → 0 ≤ x1 → x1 ≤ q.1 → FR (fF f) I0 I → FR sR R0 R →
    PN X (d + 1) mX3_both 11 [(2, 71), (0, x1)] [] I R (PPost t n tk f b m q0 I0 R0 (loopW t n p 21867813 10 k q C))
  | 0, q, C, x1, I, R, h, _, _, _, _, _, _, _, _, _ => absurd h (Nat.not_lt_zero _)
  | k + 1, q, C, x1, I, R, h, hs, hF, hm, hl, hq0, hx0, hx, f0, r0 => by
    have s1 := skp_ge t n q.1
    have q1 := hF.1.1.2.1
    have qn := hF.1.1.2.2.1
    have n1 := hF.1.1.1.2.2.2.1
    have eu : loopW t n p 21867813 10 (k + 1) q C = if tw t n (.inl q) = 21867813 then
      (match p (run isL t n (skp t n q.1), true) C with
      | .inr f => .inr f
      | .inl r => loopW t n p 21867813 10 k r.1 (10 :: r.2))
      else .inl (q, C) := rfl
    have cw : sW 0 27 = 21867813 := by decide
    have stop : ¬ tw t n (.inl q) = 21867813 → PN X (d + 1) mX3_both 62 [] [] I R (PPost t n tk f b m q0 I0 R0 (loopW t n p 21867813 10 (k + 1) q C)) := fun c => by
      rw [if_neg c] at eu
      rw [eu]
      exact S_X3_both_62 ⟨⟨rfl, hF, hl, hq0⟩, f0, r0⟩
    refine S_X3_both_11 (by omega) (fun g => stop (fun c => ?_)) (fun gx => ?_)
    · have := (tw_w c (by decide)).1
      omega
    refine S_X3_both_18 (d1 := 0) hs (by omega) (c_isWord hF.1.1 (w := 27) (by decide)) (fun z I2 R2 q2 => ?_)
    obtain ⟨(hz : z = _), rfl, rfl⟩ := q2
    rw [cw] at hz
    have br := bi_r (tw t n (.inl q) = 21867813)
    refine S_X3_both_28 (by omega) (fun g => stop (bi_0 (hz.symm.trans g))) (fun g => ?_)
    have c := bi_1 (by rw [← hz]; exact g)
    rw [if_pos c] at eu
    have lt := goT_lt (tw_w c (by decide))
    refine S_X3_both_31 (d1 := 1) hs (by omega) (c_advW hs hF.1 c (by decide)) (fun z I3 R3 p3 => ?_)
    obtain ⟨p1, p2, p3, p4⟩ := p3
    have hF3 := hF.scan p1 p3 p4
    have hs3 := hs.fr (sR_mR p4)
    refine S_X3_both_38 (d1 := d) (by omega) (hp I3 R3 _ C (m + 1) hs3 hF3 (by omega) (by simp only; omega)) (fun z I4 R4 p5 => ?_)
    obtain ⟨p5, p6, p7⟩ := p5
    have hs4 := hs3.fr (sR_mR p7)
    have vr := p5.r
    simp only at p5 vr
    refine S_X3_both_42 (by omega) (fun g => ?_) (fun g => ?_)
    · obtain ⟨r, e1, e2, e3, e4⟩ := p5.o g
      rw [e1] at eu
      simp only at eu e4
      rw [eu]
      have rn := e2.1.1.2.2.1
      refine S_X3_both_47 (d1 := 0) e2.2.1 (by omega) (c_addC (op := 10) hs4 e2 (by omega) (by decide)) e2.2.2.1 (fun z I5 R5 p8 => ?_)
      obtain ⟨p8, p9, rfl⟩ := p8
      refine S_X3_both_56 (both_lp (K := K) hp hd2 k r.1 _ (x1 + 1) I5 R5 (by omega) hs4 p8 hm ?_ (by omega) (by omega) (by omega) (f0.tr ((sF_f p3).tr (p6.tr p9))) (r0.tr (p4.tr p7)))
      simp only [List.length_cons]; omega
    · obtain ⟨fl, e1, e2⟩ := p5.z g
      rw [e1] at eu
      simp only at eu
      rw [eu]
      exact S_X3_both_45 ⟨⟨rfl, e2⟩, f0.tr ((sF_f p3).tr p6), r0.tr (p4.tr p7)⟩
theorem c_both {X : CX} {d : Nat} {t : Int → Int} {n tk f b : Int} {K : Nat} {p : (Int × Bool) → List Int → RD} (hK : n < K) (hp : RCon X t n tk f b d mX3_fact p) (hd2 : 1 ≤ d) : RCon X t n tk f b (d + 1) mX3_both (bothR t n K p) := by
  intro I R q C m hs hF hm hl
  refine callee_b (by decide +kernel) (Nat.le_of_ble_eq_true rfl) rfl ?_
  have q1 := hF.1.1.2.1
  have n0 := hF.1.1.1.2.2.1
  refine S_X3_both_0 (d1 := d) (by omega) (hp I R q C m hs hF hm hl) (fun z I2 R2 p5 => ?_)
  obtain ⟨p5, p6, p7⟩ := p5
  have hs2 := hs.fr (sR_mR p7)
  have vr := p5.r
  simp only at p5 vr
  refine S_X3_both_4 (by omega) (fun g => ?_) (fun g => ?_)
  · obtain ⟨r, e1, e2, e3, e4⟩ := p5.o g
    have eu : bothR t n K p q C = loopW t n p 21867813 10 K r.1 r.2 := by unfold bothR; rw [e1]
    rw [eu]
    exact S_X3_both_9 (both_lp (K := K) hp hd2 K r.1 r.2 0 I2 R2 (by omega) hs2 e2 hm e3 e4 (Int.le_refl _) (by omega) p6 p7)
  · obtain ⟨fl, e1, e2⟩ := p5.z g
    have eu : bothR t n K p q C = .inr fl := by unfold bothR; rw [e1]
    rw [eu]
    exact S_X3_both_7 ⟨⟨rfl, e2⟩, p6, p7⟩
theorem test_lp {X : CX} {d : Nat} {t : Int → Int} {n tk f b m q0 : Int} {I0 R0 : PF} {K : Nat} {p : (Int × Bool) → List Int → RD} (hp : RCon X t n tk f b d mX3_both (bothR t n K p)) (hd2 : 1 ≤ d) : ∀ (k : Nat) (q : Int × Bool) (C : List Int) (x1 : Int) (I R : PF), (n - q.1).toNat < k → Shp R → FC t n tk f q C b I R → 0 ≤ m → (C.length : Int) + m ≤ q.1 → q0 ≤ q.1 → 0 ≤ x1 → x1 ≤ q.1 → FR (fF f) I0 I → FR sR R0 R →
    PN X (d + 1) mX3_test 11 [(2, 71), (0, x1)] [] I R (PPost t n tk f b m q0 I0 R0 (loopW t n (bothR t n K p) 224799543 11 k q C))
  | 0, q, C, x1, I, R, h, _, _, _, _, _, _, _, _, _ => absurd h (Nat.not_lt_zero _)
  | k + 1, q, C, x1, I, R, h, hs, hF, hm, hl, hq0, hx0, hx, f0, r0 => by
    have s1 := skp_ge t n q.1
    have q1 := hF.1.1.2.1
    have qn := hF.1.1.2.2.1
    have n1 := hF.1.1.1.2.2.2.1
    have eu : loopW t n (bothR t n K p) 224799543 11 (k + 1) q C = if tw t n (.inl q) = 224799543 then
      (match bothR t n K p (run isL t n (skp t n q.1), true) C with
      | .inr f => .inr f
      | .inl r => loopW t n (bothR t n K p) 224799543 11 k r.1 (11 :: r.2))
      else .inl (q, C) := rfl
    have cw : sW 0 26 = 224799543 := by decide
    have stop : ¬ tw t n (.inl q) = 224799543 → PN X (d + 1) mX3_test 62 [] [] I R (PPost t n tk f b m q0 I0 R0 (loopW t n (bothR t n K p) 224799543 11 (k + 1) q C)) := fun c => by
      rw [if_neg c] at eu
      rw [eu]
      exact S_X3_test_62 ⟨⟨rfl, hF, hl, hq0⟩, f0, r0⟩
    refine S_X3_test_11 (by omega) (fun g => stop (fun c => ?_)) (fun gx => ?_)
    · have := (tw_w c (by decide)).1
      omega
    refine S_X3_test_18 (d1 := 0) hs (by omega) (c_isWord hF.1.1 (w := 26) (by decide)) (fun z I2 R2 q2 => ?_)
    obtain ⟨(hz : z = _), rfl, rfl⟩ := q2
    rw [cw] at hz
    have br := bi_r (tw t n (.inl q) = 224799543)
    refine S_X3_test_28 (by omega) (fun g => stop (bi_0 (hz.symm.trans g))) (fun g => ?_)
    have c := bi_1 (by rw [← hz]; exact g)
    rw [if_pos c] at eu
    have lt := goT_lt (tw_w c (by decide))
    refine S_X3_test_31 (d1 := 1) hs (by omega) (c_advW hs hF.1 c (by decide)) (fun z I3 R3 p3 => ?_)
    obtain ⟨p1, p2, p3, p4⟩ := p3
    have hF3 := hF.scan p1 p3 p4
    have hs3 := hs.fr (sR_mR p4)
    refine S_X3_test_38 (d1 := d) (by omega) (hp I3 R3 _ C (m + 1) hs3 hF3 (by omega) (by simp only; omega)) (fun z I4 R4 p5 => ?_)
    obtain ⟨p5, p6, p7⟩ := p5
    have hs4 := hs3.fr (sR_mR p7)
    have vr := p5.r
    simp only at p5 vr
    refine S_X3_test_42 (by omega) (fun g => ?_) (fun g => ?_)
    · obtain ⟨r, e1, e2, e3, e4⟩ := p5.o g
      rw [e1] at eu
      simp only at eu e4
      rw [eu]
      have rn := e2.1.1.2.2.1
      refine S_X3_test_47 (d1 := 0) e2.2.1 (by omega) (c_addC (op := 11) hs4 e2 (by omega) (by decide)) e2.2.2.1 (fun z I5 R5 p8 => ?_)
      obtain ⟨p8, p9, rfl⟩ := p8
      refine S_X3_test_56 (test_lp (K := K) hp hd2 k r.1 _ (x1 + 1) I5 R5 (by omega) hs4 p8 hm ?_ (by omega) (by omega) (by omega) (f0.tr ((sF_f p3).tr (p6.tr p9))) (r0.tr (p4.tr p7)))
      simp only [List.length_cons]; omega
    · obtain ⟨fl, e1, e2⟩ := p5.z g
      rw [e1] at eu
      simp only at eu
      rw [eu]
      exact S_X3_test_45 ⟨⟨rfl, e2⟩, f0.tr ((sF_f p3).tr p6), r0.tr (p4.tr p7)⟩
theorem c_test {X : CX} {d : Nat} {t : Int → Int} {n tk f b : Int} {K : Nat} {p : (Int × Bool) → List Int → RD} (hK : n < K) (hp : RCon X t n tk f b d mX3_both (bothR t n K p)) (hd2 : 1 ≤ d) : RCon X t n tk f b (d + 1) mX3_test (tstR t n K p) := by
  intro I R q C m hs hF hm hl
  refine callee_b (by decide +kernel) (Nat.le_of_ble_eq_true rfl) rfl ?_
  have q1 := hF.1.1.2.1
  have n0 := hF.1.1.1.2.2.1
  refine S_X3_test_0 (d1 := d) (by omega) (hp I R q C m hs hF hm hl) (fun z I2 R2 p5 => ?_)
  obtain ⟨p5, p6, p7⟩ := p5
  have hs2 := hs.fr (sR_mR p7)
  have vr := p5.r
  simp only at p5 vr
  refine S_X3_test_4 (by omega) (fun g => ?_) (fun g => ?_)
  · obtain ⟨r, e1, e2, e3, e4⟩ := p5.o g
    have eu : tstR t n K p q C = loopW t n (bothR t n K p) 224799543 11 K r.1 r.2 := by unfold tstR; rw [e1]
    rw [eu]
    exact S_X3_test_9 (test_lp (K := K) hp hd2 K r.1 r.2 0 I2 R2 (by omega) hs2 e2 hm e3 e4 (Int.le_refl _) (by omega) p6 p7)
  · obtain ⟨fl, e1, e2⟩ := p5.z g
    have eu : tstR t n K p q C = .inr fl := by unfold tstR; rw [e1]
    rw [eu]
    exact S_X3_test_7 ⟨⟨rfl, e2⟩, p6, p7⟩
theorem c_fact {X : CX} {d dS dT dF : Nat} {t : Int → Int} {n tk f b : Int} {ok : Bool} {S T F : (Int × Bool) → List Int → RD} (hb : 0 ≤ b ∧ b ≤ 6) (hS : RCon X t n tk f b dS mX3_sum S) (h : ok = true ∧ 0 < b ∧ RCon X t n tk f (b - 1) dT mX3_test T ∧ RCon X t n tk f (b - 1) dF mX3_fact F ∨ ok = false ∧ b = 0) (hd : 3 ≤ d) (hdS : dS + 1 ≤ d) (hdT : dT + 1 ≤ d) (hdF : dF + 1 ≤ d) :
    RCon X t n tk f b d mX3_fact (factB t n ok S T F) := by
  intro I R q C m hs hF hm hl
  refine callee_b (by decide +kernel) (Nat.le_of_ble_eq_true rfl) rfl ?_
  have s1 := skp_ge t n q.1
  have q0 := hF.1.1.2.1
  have qn := hF.1.1.2.2.1
  have n16 := hF.1.1.1.2.2.2.1
  have tok := hF.1.1
  have cnot : sW 0 28 = 209249973 := by decide
  have call : sW 0 29 = 20962395 := by decide
  refine S_X3_fact_0 (d1 := 0) hs (by omega) (c_isWord tok (w := 28) (by decide)) (fun z I2 R2 p => ?_)
  obtain ⟨(hz : z = _), rfl, rfl⟩ := p
  rw [cnot] at hz
  have br := bi_r (tw t n (.inl q) = 209249973)
  unfold factB
  refine S_X3_fact_10 (by omega) (fun g => ?_) (fun g => ?_)
  rotate_left
  · have gs := bi_1 (by rw [← hz]; exact g)
    have nn := tw_nxt gs (by decide)
    rw [if_neg (by omega), if_pos gs]
    have lt := goT_lt (tw_w gs (by decide))
    refine S_X3_fact_13 (d1 := 2) (by omega) (c_opens hs hF hb) (fun z I4 R4 p => ?_)
    obtain ⟨k1, k2, k3⟩ := p
    have hs4 := hs.fr (sR_mR k3)
    rcases k1 with ⟨b0, (z0 : z = 0), k4⟩ | ⟨b1, (z1 : z = 1), k4⟩
    · refine S_X3_fact_17 (by omega) (fun _ => ?_) (fun g => absurd z0 g)
      have : ok = false := by rcases h with h | h; omega; exact h.1
      rw [this, if_neg (by decide)]
      exact S_X3_fact_27 ⟨⟨rfl, k4⟩, k2, k3⟩
    refine S_X3_fact_17 (by omega) (fun g => by omega) (fun _ => ?_)
    have hok : ok = true ∧ RCon X t n tk f (b - 1) dF mX3_fact F := by rcases h with h | h; exact ⟨h.1, h.2.2.2⟩; omega
    obtain ⟨rfl, hF'⟩ := hok
    rw [if_pos rfl]
    rw [behT_W (tw_w gs (by decide))] at k4
    refine S_X3_fact_20 (d1 := dF) (by omega) (hF'.at (m := m + 1) (q0 := q.1) hs4 k4 (by omega) (by simp only; omega) (by simp only; omega) k2 k3) (fun z I5 R5 p5 => ?_)
    obtain ⟨p5, f5, r5⟩ := p5
    have vr := p5.r
    simp only at p5 vr
    have hs5 := hs.fr (sR_mR r5)
    refine S_X3_fact_24 (by omega) (fun g => ?_) (fun g => ?_)
    rotate_left
    · obtain ⟨fl, e1, e2⟩ := p5.z g
      rw [e1]
      exact S_X3_fact_27 ⟨⟨rfl, e2⟩, f5, r5⟩
    obtain ⟨r, e1, e2, e3, e4⟩ := p5.o g
    rw [e1]
    simp only
    obtain ⟨⟨n1, n2, n3, -⟩, m1, m2, m3, -⟩ := fm_ne e2.2.2.1
    have rn := e2.1.1.2.2.1
    have e2' := e2
    obtain ⟨a1, a2, a3, a4, a5, a6⟩ := e2'
    have e3' : (u2 I5 71 3 (I5 71 3 - 1)) 71 3 = 6 - b := by rw [u2_at]; omega
    have h2 : FC t n tk f r.1 r.2 b (u2 I5 71 3 (I5 71 3 - 1)) R5 := ⟨a1.fr (u2_row (by decide)) (u2_row (by decide)), a2, a3, by rw [u2_j (by decide)]; exact a4, e3', by rw [u2_o (by omega)]; exact a6.row (u2_row (by omega))⟩
    refine S_X3_fact_29 (d1 := 0) h2.2.1 (by omega) (c_addC (op := 12) hs5 h2 (by omega) (by decide)) h2.2.2.1 (fun z I8 R8 p => ?_)
    obtain ⟨k1, k2, rfl⟩ := p
    exact S_X3_fact_48 ⟨⟨rfl, k1, by simp only [List.length_cons]; omega, by simp only; omega⟩, (f5.tr (FR_u2 (Or.inr (Or.inl ⟨rfl, rfl⟩)))).tr k2, r5⟩
  have nnot := bi_0 (hz.symm.trans g)
  refine S_X3_fact_50 (d1 := 0) hs (by omega) (c_isSign tok (c := 91) (by unfold sgn; omega) (by decide)) (fun z I3 R3 q2 => ?_)
  obtain ⟨(hz : z = _), rfl, rfl⟩ := q2
  have br := bi_r (nxt t n (.inl q) = 91)
  refine S_X3_fact_59 (by omega) (fun g => ?_) (fun g => ?_)
  rotate_left
  · have g40 := bi_1 (by rw [← hz]; exact g)
    rw [if_pos g40]
    have hn := lkv_n (t := t) (n := n) (a := skp t n q.1) g40 (by decide)
    refine S_X3_fact_62 (d1 := 2) (by omega) (c_opens hs hF hb) (fun z I4 R4 p => ?_)
    obtain ⟨k1, k2, k3⟩ := p
    have hs4 := hs.fr (sR_mR k3)
    rcases k1 with ⟨b0, (z0 : z = 0), k4⟩ | ⟨b1, (z1 : z = 1), k4⟩
    · refine S_X3_fact_66 (by omega) (fun _ => ?_) (fun g => absurd z0 g)
      have : ok = false := by rcases h with h | h; omega; exact h.1
      rw [this, if_neg (by decide)]
      exact S_X3_fact_89 (S_X3_fact_90 (by omega) ⟨⟨rfl, k4⟩, k2, k3⟩)
    refine S_X3_fact_66 (by omega) (fun g => by omega) (fun _ => ?_)
    have hok : ok = true ∧ RCon X t n tk f (b - 1) dT mX3_test T := by rcases h with h | h; exact ⟨h.1, h.2.2.1⟩; omega
    obtain ⟨rfl, hT⟩ := hok
    rw [if_pos rfl]
    rw [behT_S (c := 91) (by unfold sgn; omega) g40] at k4
    refine S_X3_fact_69 (d1 := dT) (by omega) (hT.at (m := m) (q0 := q.1) hs4 k4 hm (by simp only; omega) (by simp only; omega) k2 k3) (fun z I5 R5 p5 => ?_)
    obtain ⟨p5, f5, r5⟩ := p5
    have vr := p5.r
    simp only at p5 vr
    have hs5 := hs.fr (sR_mR r5)
    refine S_X3_fact_73 (by omega) (fun g => ?_) (fun g => ?_)
    · obtain ⟨fl, e1, e2⟩ := p5.z g
      rw [e1]
      exact S_X3_fact_89 (S_X3_fact_90 (by omega) ⟨⟨rfl, e2⟩, f5, r5⟩)
    obtain ⟨r, e1, e2, e3, e4⟩ := p5.o g
    rw [e1]
    simp only
    have s3 := skp_ge t n r.1.1
    refine S_X3_fact_76 (d1 := 2) (by omega) (c_closes hs5 e2 (by omega) (c := 93) (by unfold sgn; omega) (by decide)) (fun z I6 R6 p => ?_)
    obtain ⟨k5, k6, k7⟩ := p
    rcases k5 with ⟨g41, (z0 : z = 0), k8⟩ | ⟨g41, (z1 : z = 1), k8⟩
    · rw [if_neg g41]
      refine S_X3_fact_82 (by omega) (fun _ => ?_) (fun g => absurd z0 g)
      exact S_X3_fact_89 (S_X3_fact_90 (by omega) ⟨⟨rfl, k8⟩, f5.tr k6, r5.tr k7⟩)
    rw [if_pos g41]
    rw [Int.sub_add_cancel] at k8
    refine S_X3_fact_82 (by omega) (fun g => by omega) (fun _ => ?_)
    exact S_X3_fact_85 (S_X3_fact_90 (by omega) ⟨⟨rfl, k8, by simp only; omega, by simp only; omega⟩, f5.tr k6, r5.tr k7⟩)
  have n91 := bi_0 (hz.symm.trans g)
  rw [if_neg n91, if_neg nnot]
  refine S_X3_fact_91 (d1 := 0) hs (by omega) (c_isWord tok (w := 29) (by decide)) (fun z I4 R4 p => ?_)
  obtain ⟨(hz : z = _), rfl, rfl⟩ := p
  rw [call] at hz
  have br := bi_r (tw t n (.inl q) = 20962395)
  refine S_X3_fact_101 (by omega) (fun g => ?_) (fun g => ?_)
  rotate_left
  · have gs := bi_1 (by rw [← hz]; exact g)
    rw [if_pos gs]
    have lt := goT_lt (tw_w gs (by decide))
    refine S_X3_fact_104 (d1 := 1) hs (by omega) (c_advW hs hF.1 gs (by decide)) (fun z I7 R7 p => ?_)
    obtain ⟨p1, -, p3, p4⟩ := p
    have F7 := hF.scan p1 p3 p4
    have hs7 := hs.fr (sR_mR p4)
    refine S_X3_fact_111 (d1 := 0) F7.2.1 (by omega) (c_addC (op := 13) hs7 F7 (by omega) (by decide)) F7.2.2.1 (fun z I8 R8 p => ?_)
    obtain ⟨k1, k2, rfl⟩ := p
    exact S_X3_fact_119 ⟨⟨rfl, k1, by simp only [List.length_cons]; omega, by simp only; omega⟩, (sF_f p3).tr k2, p4⟩
  rw [if_neg (bi_0 (hz.symm.trans g))]
  refine S_X3_fact_121 (d1 := dS) (by omega) (hS I4 R4 q C m hs hF hm hl) (fun z I5 R5 p5 => ?_)
  obtain ⟨p5, f5, r5⟩ := p5
  have vr := p5.r
  simp only at p5 vr
  have hs5 := hs.fr (sR_mR r5)
  refine S_X3_fact_125 (by omega) (fun g => ?_) (fun g => ?_)
  rotate_left
  · obtain ⟨fl, e1, e2⟩ := p5.z g
    rw [e1]
    exact S_X3_fact_128 ⟨⟨rfl, e2⟩, f5, r5⟩
  obtain ⟨r, e1, e2, e3, e4⟩ := p5.o g
  rw [e1]
  simp only
  have s3 := skp_ge t n r.1.1
  refine S_X3_fact_130 (d1 := 1) (by omega) (c_comparing hs5 e2) (fun z I6 R6 p => ?_)
  obtain ⟨(hz : z = _), rfl, rfl⟩ := p
  have zr : -28 ≤ z ∧ z ≤ -1 ∧ (z = -1 ↔ ¬ (nxt t n (.inl r.1) = 60 ∨ nxt t n (.inl r.1) = 62 ∨ nxt t n (.inl r.1) = 61)) := by
    rw [hz]; repeat' split
    all_goals omega
  refine S_X3_fact_134 (by omega) (fun g => ?_) (fun g => ?_)
  rotate_left
  · rw [if_neg (zr.2.2.mp g)]
    refine S_X3_fact_140 (d1 := 0) hs5 (by omega) (c_refuse e2.1 (by decide)) (fun z I3 R3 p => ?_)
    obtain ⟨(k1 : z = 0), k2, k3, rfl⟩ := p
    rw [e2.1.1.2.2.2.1] at k2
    exact S_X3_fact_155 (by omega) ⟨⟨k1, k2⟩, f5.tr (sF_f k3), r5⟩
  have gc : nxt t n (.inl r.1) = 60 ∨ nxt t n (.inl r.1) = 62 ∨ nxt t n (.inl r.1) = 61 := by
    by_cases c : nxt t n (.inl r.1) = 60 ∨ nxt t n (.inl r.1) = 62 ∨ nxt t n (.inl r.1) = 61
    · exact c
    · exact absurd (zr.2.2.mpr c) g
  rw [if_pos gc]
  have hzd : z = dc (if nxt t n (.inl r.1) = 60 then 7 else if nxt t n (.inl r.1) = 62 then 8 else 9) := by
    rw [hz]
    by_cases c1 : nxt t n (.inl r.1) = 60
    · rw [if_pos c1, if_pos c1]; decide
    · rw [if_neg c1, if_neg c1]
      by_cases c2 : nxt t n (.inl r.1) = 62
      · rw [if_pos c2, if_pos c2]; decide
      · rw [if_neg c2, if_neg c2, if_pos (by omega)]; decide
  have hcc : ∃ c, nxt t n (.inl r.1) = c ∧ sgn c := by
    rcases gc with c | c | c
    · exact ⟨_, c, by unfold sgn; omega⟩
    · exact ⟨_, c, by unfold sgn; omega⟩
    · exact ⟨_, c, by unfold sgn; omega⟩
  obtain ⟨c0, hc0, hs0⟩ := hcc
  refine S_X3_fact_156 (d1 := 1) hs5 (by omega) (c_advS hs5 e2.1 hc0 hs0) (fun z9 I7 R7 p => ?_)
  obtain ⟨p1, -, p3, p4⟩ := p
  have F7 := e2.scan p1 p3 p4
  have hs7 := hs5.fr (sR_mR p4)
  refine S_X3_fact_163 (d1 := dS) (by omega) (hS.at (m := m + 1) (q0 := q.1) hs7 F7 (by omega) (by simp only; omega) (by simp only; omega) (f5.tr (sF_f p3)) (r5.tr p4)) (fun z9 I8 R8 p6 => ?_)
  obtain ⟨p6, f6, r6⟩ := p6
  have vr := p6.r
  simp only at p6 vr
  have hs8 := hs.fr (sR_mR r6)
  refine S_X3_fact_167 (by omega) (fun g => ?_) (fun g => ?_)
  rotate_left
  · obtain ⟨fl, e1, e2⟩ := p6.z g
    rw [e1]
    exact S_X3_fact_170 ⟨⟨rfl, e2⟩, f6, r6⟩
  obtain ⟨r2, e5, e6, e7, e8⟩ := p6.o g
  rw [e5]
  simp only
  have rn := e6.1.1.2.2.1
  refine S_X3_fact_172 (d1 := 0) e6.2.1 (by omega) (c_addC hs8 e6 (by omega) hzd) e6.2.2.1 (fun z I9 R9 p => ?_)
  obtain ⟨k1, k2, rfl⟩ := p
  exact S_X3_fact_180 ⟨⟨rfl, k1, by simp only [List.length_cons]; omega, by simp only; omega⟩, f6.tr k2, r6⟩
theorem d_fact {X : CX} {t : Int → Int} {n tk f : Int} {K : Nat} (ht : 0 ≤ tk ∧ tk ≤ 2) (hK : n < K) : ∀ b : Nat, b ≤ 6 → RCon X t n tk f b (7 + 4 * b) mX3_fact (factR t n tk K b)
  | 0, _ => c_fact (dT := 0) (dF := 0) (by decide) (d_sum ht hK 0 (by decide)) (Or.inr ⟨rfl, rfl⟩) (by decide) (by decide) (by decide) (by decide)
  | b + 1, hb => by
    have ih := d_fact (X := X) (t := t) (n := n) (tk := tk) (f := f) (K := K) ht hK b (by omega)
    have hT := c_test hK (c_both hK ih (by omega)) (by omega)
    have e : ((b + 1 : Nat) : Int) - 1 = b := by omega
    exact c_fact (ok := true) (f := f) (b := ((b + 1 : Nat) : Int)) (by omega) (d_sum ht hK (b + 1) hb) (Or.inl ⟨rfl, by omega, by rw [e]; exact hT, by rw [e]; exact ih⟩) (by omega) (by omega) (by omega) (by omega)
theorem d_test {X : CX} {t : Int → Int} {n tk f : Int} {K : Nat} (ht : 0 ≤ tk ∧ tk ≤ 2) (hK : n < K) (b : Nat) (hb : b ≤ 6) : RCon X t n tk f b (9 + 4 * b) mX3_test (tstR t n K (factR t n tk K b)) := by
  have := c_test hK (c_both hK (d_fact (X := X) (t := t) (f := f) ht hK b hb) (by omega)) (by omega)
  rw [show 9 + 4 * b = 7 + 4 * b + 1 + 1 by omega]
  exact this
/-- a formula is read into f -/
def DRes (t : Int → Int) (n f : Int) (x : RD) (v : Int) (I R : PF) : Prop := match x with
  | .inl r => v = 1 ∧ DSt t n (.inl r.1) I R ∧ Stk I (f + 1) (r.2.map dc) (I f 2) ∧ (r.2.length : Int) ≤ r.1.1 ∧ (r.2.length : Int) ≤ 1600
  | .inr fl => v = 0 ∧ DSt t n (.inr fl) I R
def dF (f x y : Int) : Prop := sF x y ∨ (x = 71 ∧ (y = 2 ∨ y = 3)) ∨ (x = f ∧ y = 2) ∨ x = f + 1
def dR (x y : Int) : Prop := (x = 67 ∧ y = 6) ∨ (x = 71 ∧ y = 1)
theorem dR_mR {R R' : PF} (h : FR dR R R') : FR mR R R' := h.mono (fun x y c => c.elim Or.inl (fun c => Or.inr (Or.inl c)))
theorem c_startAt {X : CX} {I R : PF} {t : Int → Int} {n tk f : Int} {q : Int × Bool} (hs : Shp R) (hf : kd MF f = 2) (h : DSt t n (.inl q) I R) : CN X 1 mX3_startAt [(2, 71), (2, f), (0, wh tk)] I R (fun _ I' R' => FC t n tk f q [] 6 I' R' ∧ FR (dF f) I I' ∧ FR dR R R') := by
  refine callee_b (by decide +kernel) (Nat.le_of_ble_eq_true rfl) rfl ?_
  obtain ⟨⟨n1, n2, n3, -⟩, m1, m2, m3, -⟩ := fm_ne hf
  have c_clear : CN X 0 mX2_clear [(2, f)] I (u2 R 71 1 f) (fun _ I' R' => I' = u2 I f 2 0 ∧ R' = u2 R 71 1 f) := by
    refine callee_b (by decide +kernel) (Nat.le_of_ble_eq_true rfl) rfl ?_
    exact S_X2_clear_0 hf ⟨rfl, rfl⟩
  refine S_X3_startAt_0 (d1 := 0) u2_at (by omega) c_clear hf (fun z I2 R2 p => ?_)
  obtain ⟨rfl, rfl⟩ := p
  have ff : FR (dF f) I (u2 (u2 (u2 I f 2 0) 71 2 (wh tk)) 71 3 0) := FR.tr (FR.tr (FR_u2 (Or.inr (Or.inr (Or.inl ⟨rfl, rfl⟩)))) (FR_u2 (Or.inr (Or.inl ⟨rfl, Or.inl rfl⟩)))) (FR_u2 (Or.inr (Or.inl ⟨rfl, Or.inr rfl⟩)))
  refine S_X3_startAt_12 ⟨⟨?_, u2_at, hf, ?_, u2_at, ?_⟩, ff, FR_u2 (Or.inr ⟨rfl, rfl⟩)⟩
  · have h2 : DSt t n (.inl q) I (u2 R 71 1 f) := by
      obtain ⟨⟨a1, a2, a3, a4, a5, a6, a7, a8⟩, a9, a10⟩ := h
      exact ⟨⟨a1, a2, a3, a4, a5, a6, a7, by rw [u2_o (by decide)]; exact a8⟩, a9, a10⟩
    exact h2.fr (by rw [u2_row (by decide), u2_row (by decide), u2_row (by omega)]) (by rw [u2_row (by decide), u2_row (by decide), u2_row (by omega)])
  · rw [u2_j (by decide), u2_at]
  · show (u2 (u2 (u2 I f 2 0) 71 2 (wh tk)) 71 3 0) f 2 = 0
    rw [u2_o (by omega), u2_o (by omega), u2_at]
theorem PRes.d {t : Int → Int} {n tk f b q0 : Int} {x : RD} {v : Int} {I R : PF} (h : PRes t n tk f b 0 q0 x v I R) : DRes t n f x v I R := by
  cases x with
  | inl r =>
    have n1 := h.2.1.1.1.2.2.1
    have n2 := h.2.1.1.1.1.2.2.2.1
    have l := h.2.2.1
    exact ⟨h.1, h.2.1.1, h.2.1.2.2.2.2.2, by omega, by omega⟩
  | inr fl => exact h
theorem fF_dF {f : Int} {I J : PF} (h : FR (fF f) I J) : FR (dF f) I J := h.mono (fun x y c => c.elim Or.inl (fun c => c.elim (fun c => Or.inr (Or.inl ⟨c.1, Or.inr c.2⟩)) (fun c => Or.inr (Or.inr c))))
theorem sR_dR {I J : PF} (h : FR sR I J) : FR dR I J := h.mono (fun x y c => Or.inl c)
theorem c_readSum {X : CX} {I R : PF} {t : Int → Int} {n tk f : Int} {q : Int × Bool} {K : Nat} (hs : Shp R) (ht : 0 ≤ tk ∧ tk ≤ 2) (hK : n < K) (hf : kd MF f = 2) (h : DSt t n (.inl q) I R) :
    CN X 31 mX3_readSum [(2, 71), (2, f), (0, wh tk)] I R (fun v I' R' => DRes t n f (sumF t n tk K q) v.2 I' R' ∧ FR (dF f) I I' ∧ FR dR R R') := by
  refine callee_b (by decide +kernel) (Nat.le_of_ble_eq_true rfl) rfl ?_
  refine S_X3_readSum_0 (d1 := 1) (by omega) (c_startAt hs hf h) (fun z I2 R2 p => ?_)
  obtain ⟨p1, p2, p3⟩ := p
  have q0 := h.1.2.1
  refine S_X3_readSum_6 (d1 := 30) (by omega) (d_sum ht hK 6 (by decide) I2 R2 q [] 0 (hs.fr (dR_mR p3)) p1 (by decide) (by simp only [List.length_nil]; omega)) (fun z I3 R3 p4 => ?_)
  obtain ⟨p4, p5, p6⟩ := p4
  exact S_X3_readSum_10 p4.r ⟨p4.d, p2.tr (fF_dF p5), p3.tr (sR_dR p6)⟩
theorem c_readTest {X : CX} {I R : PF} {t : Int → Int} {n tk f : Int} {q : Int × Bool} {K : Nat} (hs : Shp R) (ht : 0 ≤ tk ∧ tk ≤ 2) (hK : n < K) (hf : kd MF f = 2) (h : DSt t n (.inl q) I R) :
    CN X 34 mX3_readTest [(2, 71), (2, f), (0, wh tk)] I R (fun v I' R' => DRes t n f (tstF t n tk K q) v.2 I' R' ∧ FR (dF f) I I' ∧ FR dR R R') := by
  refine callee_b (by decide +kernel) (Nat.le_of_ble_eq_true rfl) rfl ?_
  refine S_X3_readTest_0 (d1 := 1) (by omega) (c_startAt hs hf h) (fun z I2 R2 p => ?_)
  obtain ⟨p1, p2, p3⟩ := p
  have q0 := h.1.2.1
  refine S_X3_readTest_6 (d1 := 33) (by omega) (d_test ht hK 6 (by decide) I2 R2 q [] 0 (hs.fr (dR_mR p3)) p1 (by decide) (by simp only [List.length_nil]; omega)) (fun z I3 R3 p4 => ?_)
  obtain ⟨p4, p5, p6⟩ := p4
  exact S_X3_readTest_10 p4.r ⟨p4.d, p2.tr (fF_dF p5), p3.tr (sR_dR p6)⟩
