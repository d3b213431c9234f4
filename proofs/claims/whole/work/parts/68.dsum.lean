/-! ===== the class reads a sum ===== -/
theorem sum_lp {X : CX} {d : Nat} {t : Int → Int} {n tk f b m q0 : Int} {I0 R0 : PF} {K : Nat} {p : (Int × Bool) → List Int → RD} (hp : RCon X t n tk f b d mX3_product (prodR t n K p)) (hd2 : 1 ≤ d) : ∀ (k : Nat) (q : Int × Bool) (C : List Int) (x1 : Int) (I R : PF), (n - q.1).toNat < k → Shp R → FC t n tk f q C b I R → 0 ≤ m → (C.length : Int) + m ≤ q.1 → q0 ≤ q.1 → 0 ≤ x1 → x1 ≤ q.1 → FR (fF f) I0 I → FR sR R0 R →
    PN X (d + 1) mX3_sum 11 [(2, 71), (0, x1)] [] I R (PPost t n tk f b m q0 I0 R0 (loopR t n (prodR t n K p) 43 1 45 2 k q C))
  | 0, q, C, x1, I, R, h, _, _, _, _, _, _, _, _, _ => absurd h (Nat.not_lt_zero _)
  | k + 1, q, C, x1, I, R, h, hs, hF, hm, hl, hq0, hx0, hx, f0, r0 => by
    have s1 := skp_ge t n q.1
    have q1 := hF.1.1.2.1
    have qn := hF.1.1.2.2.1
    have n1 := hF.1.1.1.2.2.2.1
    have eu : loopR t n (prodR t n K p) 43 1 45 2 (k + 1) q C = if nxt t n (.inl q) = 43 ∨ nxt t n (.inl q) = 45 then
      (match prodR t n K p (skp t n q.1 + 1, false) C with
      | .inr f => .inr f
      | .inl r => loopR t n (prodR t n K p) 43 1 45 2 k r.1 ((if nxt t n (.inl q) = 43 then 1 else 2) :: r.2))
      else .inl (q, C) := rfl
    have stop : ¬ (nxt t n (.inl q) = 43 ∨ nxt t n (.inl q) = 45) → PN X (d + 1) mX3_sum 92 [] [] I R (PPost t n tk f b m q0 I0 R0 (loopR t n (prodR t n K p) 43 1 45 2 (k + 1) q C)) := fun c => by
      rw [if_neg c] at eu
      rw [eu]
      exact S_X3_sum_92 ⟨⟨rfl, hF, hl, hq0⟩, f0, r0⟩
    refine S_X3_sum_11 (by omega) (fun g => stop (fun c => ?_)) (fun gx => ?_)
    · have e := nxt_end (t := t) (n := n) (q := q) (by omega)
      omega
    refine S_X3_sum_18 (d1 := 0) hs (by omega) (c_isSign hF.1.1 (c := 43) (by unfold sgn; omega) (by decide)) (fun z I2 R2 q2 => ?_)
    obtain ⟨(hz : z = _), rfl, rfl⟩ := q2
    have br := bi_r (nxt t n (.inl q) = 43)
    have go : (nxt t n (.inl q) = 43 ∨ nxt t n (.inl q) = 45) → PN X (d + 1) mX3_sum 42 [(2, 71), (0, x1)] [] I2 R2 (PPost t n tk f b m q0 I0 R0 (loopR t n (prodR t n K p) 43 1 45 2 (k + 1) q C)) := fun c => by
      rw [if_pos c] at eu
      have hn : skp t n q.1 < n := by
        rcases c with g | g <;> exact lkv_n (t := t) (n := n) (a := skp t n q.1) g (by decide)
      have hb : ∃ c0, nxt t n (.inl q) = c0 ∧ sgn c0 := by
        rcases c with g | g
        · exact ⟨_, g, by unfold sgn; omega⟩
        · exact ⟨_, g, by unfold sgn; omega⟩
      obtain ⟨c0, hc0, hs0⟩ := hb
      have body : ∀ w : Int, w = dc (if nxt t n (.inl q) = 43 then 1 else 2) → PN X (d + 1) mX3_sum 61 [(2, 71), (0, x1)] [(0, w)] I2 R2 (PPost t n tk f b m q0 I0 R0 (loopR t n (prodR t n K p) 43 1 45 2 (k + 1) q C)) := fun w hw => by
        refine S_X3_sum_61 (d1 := 1) hs (by omega) (c_advS hs hF.1 hc0 hs0) (fun z I3 R3 p3 => ?_)
        obtain ⟨p1, p2, p3, p4⟩ := p3
        have hF3 := hF.scan p1 p3 p4
        have hs3 := hs.fr (sR_mR p4)
        refine S_X3_sum_69 (d1 := d) (by omega) (hp I3 R3 _ C (m + 1) hs3 hF3 (by omega) (by simp only; omega)) (fun z I4 R4 p5 => ?_)
        obtain ⟨p5, p6, p7⟩ := p5
        have hs4 := hs3.fr (sR_mR p7)
        have vr := p5.r
        simp only at p5 vr
        refine S_X3_sum_73 (by omega) (fun g => ?_) (fun g => ?_)
        · obtain ⟨r, e1, e2, e3, e4⟩ := p5.o g
          rw [e1] at eu
          simp only at eu e4
          rw [eu]
          have rn := e2.1.1.2.2.1
          refine S_X3_sum_78 (d1 := 0) e2.2.1 (by omega) (c_addC hs4 e2 (by omega) hw) e2.2.2.1 (fun z I5 R5 p8 => ?_)
          obtain ⟨p8, p9, rfl⟩ := p8
          refine S_X3_sum_86 (sum_lp (K := K) hp hd2 k r.1 _ (x1 + 1) I5 R5 (by omega) hs4 p8 hm ?_ (by omega) (by omega) (by omega) (f0.tr ((sF_f p3).tr (p6.tr p9))) (r0.tr (p4.tr p7)))
          simp only [List.length_cons]; omega
        · obtain ⟨fl, e1, e2⟩ := p5.z g
          rw [e1] at eu
          simp only at eu
          rw [eu]
          exact S_X3_sum_76 ⟨⟨rfl, e2⟩, f0.tr ((sF_f p3).tr p6), r0.tr (p4.tr p7)⟩
      refine S_X3_sum_42 (d1 := 0) hs (by omega) (c_isSign hF.1.1 (c := 43) (by unfold sgn; omega) (by decide)) (fun z I3 R3 q3 => ?_)
      obtain ⟨(hz3 : z = _), rfl, rfl⟩ := q3
      refine S_X3_sum_51 (by omega) (fun g => ?_) (fun g => ?_)
      · refine S_X3_sum_59 (body _ ?_)
        rw [if_neg (bi_0 (hz3.symm.trans g))]; decide
      · refine S_X3_sum_54 (body _ ?_)
        rw [if_pos (bi_1 (by rw [← hz3]; exact g))]; decide
    refine S_X3_sum_27 (by omega) (fun g => go (Or.inl (bi_1 (by rw [← hz]; exact g)))) (fun g => ?_)
    have g1 := bi_0 (hz.symm.trans g)
    refine S_X3_sum_30 (d1 := 0) hs (by omega) (c_isSign hF.1.1 (c := 45) (by unfold sgn; omega) (by decide)) (fun z I3 R3 q3 => ?_)
    obtain ⟨(hz3 : z = _), rfl, rfl⟩ := q3
    have br2 := bi_r (nxt t n (.inl q) = 45)
    refine S_X3_sum_39 (by omega) (fun g => stop (fun c => c.elim g1 (bi_0 (hz3.symm.trans g)))) (fun g => go (Or.inr (bi_1 (by rw [← hz3]; exact g))))
theorem c_sum {X : CX} {d : Nat} {t : Int → Int} {n tk f b : Int} {K : Nat} {p : (Int × Bool) → List Int → RD} (hK : n < K) (hp : RCon X t n tk f b d mX3_product (prodR t n K p)) (hd2 : 1 ≤ d) : RCon X t n tk f b (d + 1) mX3_sum (sumR t n K p) := by
  intro I R q C m hs hF hm hl
  refine callee_b (by decide +kernel) (Nat.le_of_ble_eq_true rfl) rfl ?_
  have q1 := hF.1.1.2.1
  have n0 := hF.1.1.1.2.2.1
  refine S_X3_sum_0 (d1 := d) (by omega) (hp I R q C m hs hF hm hl) (fun z I2 R2 p5 => ?_)
  obtain ⟨p5, p6, p7⟩ := p5
  have hs2 := hs.fr (sR_mR p7)
  have vr := p5.r
  simp only at p5 vr
  refine S_X3_sum_4 (by omega) (fun g => ?_) (fun g => ?_)
  · obtain ⟨r, e1, e2, e3, e4⟩ := p5.o g
    have eu : sumR t n K p q C = loopR t n (prodR t n K p) 43 1 45 2 K r.1 r.2 := by unfold sumR; rw [e1]
    rw [eu]
    exact S_X3_sum_9 (sum_lp (K := K) hp hd2 K r.1 r.2 0 I2 R2 (by omega) hs2 e2 hm e3 e4 (Int.le_refl _) (by omega) p6 p7)
  · obtain ⟨fl, e1, e2⟩ := p5.z g
    have eu : sumR t n K p q C = .inr fl := by unfold sumR; rw [e1]
    rw [eu]
    exact S_X3_sum_7 ⟨⟨rfl, e2⟩, p6, p7⟩
