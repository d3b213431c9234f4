/-! ===== what a question comes to ===== -/
def aO (vl : Int → Int) : Nat → Int
  | 0 => 0
  | k + 1 => if vl k ≠ 0 then aO vl k + 1 else aO vl k
def aFs (vl : Int → Int) : Nat → Int
  | 0 => -1
  | k + 1 => if vl k ≠ 0 ∧ aO vl k = 0 then (k : Int) else aFs vl k
def aL (vl : Int → Int) : Nat → Int
  | 0 => -1
  | k + 1 => if vl k ≠ 0 then (k : Int) else aL vl k
def aT (vl : Int → Int) : Nat → Int
  | 0 => 0
  | k + 1 => aT vl k + vl k
def aM (vl : Int → Int) : Nat → Int
  | 0 => 0
  | k + 1 => if k = 0 then vl k else max (aM vl k) (vl k)
def aN (vl : Int → Int) : Nat → Int
  | 0 => 0
  | k + 1 => if k = 0 then vl k else min (aN vl k) (vl k)
def anV (kd : Int) (vl : Int → Int) (n : Nat) : Int := if kd = 0 then aFs vl n else if kd = 1 then aL vl n else if kd = 2 then aO vl n else if kd = 3 then aT vl n else if kd = 4 then aM vl n else aN vl n
theorem aO_r (vl : Int → Int) : ∀ k : Nat, 0 ≤ aO vl k ∧ aO vl k ≤ k
  | 0 => by unfold aO; decide
  | k + 1 => by
    have := aO_r vl k
    unfold aO; split <;> omega
theorem aFs_r (vl : Int → Int) : ∀ k : Nat, (aFs vl k = -1 ↔ aO vl k = 0) ∧ -1 ≤ aFs vl k ∧ aFs vl k < k
  | 0 => by unfold aO aFs; omega
  | k + 1 => by
    have h := aFs_r vl k
    have o := aO_r vl k
    unfold aO aFs
    by_cases c : vl k ≠ 0
    · rw [if_pos c]
      by_cases c2 : aO vl k = 0
      · rw [if_pos ⟨c, c2⟩]; omega
      · rw [if_neg (fun d => c2 d.2)]; omega
    · rw [if_neg c, if_neg (fun d => c d.1)]; omega
theorem aL_r (vl : Int → Int) : ∀ k : Nat, -1 ≤ aL vl k ∧ aL vl k < k
  | 0 => by unfold aL; omega
  | k + 1 => by
    have h := aL_r vl k
    unfold aL; split <;> omega
theorem aT_r {vl : Int → Int} : ∀ k : Nat, (∀ p : Int, 0 ≤ p → p < k → bd (vl p)) → -1000000 * (k : Int) ≤ aT vl k ∧ aT vl k ≤ 1000000 * k
  | 0, _ => by unfold aT; omega
  | k + 1, h => by
    have a := aT_r k (fun p p0 p1 => h p p0 (by omega))
    have b := h k (by omega) (by omega)
    unfold bd at b
    unfold aT; omega
theorem aM_r {vl : Int → Int} : ∀ k : Nat, (∀ p : Int, 0 ≤ p → p < k → bd (vl p)) → bd (aM vl k) ∧ bd (aN vl k)
  | 0, _ => by unfold aM aN bd; decide
  | k + 1, h => by
    have a := aM_r k (fun p p0 p1 => h p p0 (by omega))
    have b := h k (by omega) (by omega)
    unfold bd at *
    unfold aM aN
    split <;> omega
/-- the class ready for a question's values -/
def VQ (D K : PF) (noon : Int) (w : List Int) (J : PF) : Prop := StC D K 111 J ∧ J 131 10 = noon ∧ ((50 : Int) ∈ w → ∀ p, 0 ≤ p → p < D 339 1 → J 135 p = cnt (fun t => whT D K noon t = p) 33) ∧ J 68 2 = w.length ∧ CA (J 69) 0 w ∧ bd (J 131 5)
def vF (x y : Int) : Prop := (x = 131 ∧ ((0 ≤ y ∧ y ≤ 9) ∨ y = 12)) ∨ x = 70
theorem VQ.fr {D K : PF} {noon : Int} {w : List Int} {J J' : PF} (h : VQ D K noon w J) (hG : GD D) (f : FR vF J J') (h5 : bd (J' 131 5)) : VQ D K noon w J' := by
  obtain ⟨a1, a2, a3, a4, a5, a6⟩ := h
  have hD := hG.2.1
  have e : ∀ x y, ¬ vF x y → J' x y = J x y := f
  refine ⟨a1.fr ⟨by omega, by omega⟩ (fun x y c => e x y (fun d => by unfold stC at c; unfold vF at d; omega)), by rw [e _ _ (fun d => by unfold vF at d; omega)]; exact a2, fun h p p0 p1 => by rw [e _ _ (fun d => by unfold vF at d; omega)]; exact a3 h p p0 p1, by rw [e _ _ (fun d => by unfold vF at d; omega)]; exact a4, ?_, h5⟩
  rw [show J' 69 = J 69 from funext fun y => e _ _ (fun d => by unfold vF at d; omega)]; exact a5
theorem vlQ_B {D K : PF} {noon p : Int} {B : Int → Prop} {w : List Int} (hG : GD D) (hK : KG D K) (hn : bd noon) (hp : 0 ≤ p ∧ p < D 339 1) (hw : PW1 2 B 64 w) : B (vlQ D K noon w p) := by
  obtain ⟨hr, v, hv, b1⟩ := hw (eQ D K noon p) (K 348 (3 + 5 * p + 2)) [] (eQ_bd hG hK hn hp) (fun v h => absurd h List.not_mem_nil) (Nat.le_refl _)
  unfold vlQ
  rw [hv]; exact b1
theorem c_vF {X : CX} {I R D K : PF} {noon p : Int} {B : Int → Prop} {w : List Int} (hs : Shp R) (hr1 : R 127 1 = 111) (hG : GD D) (hK : KG D K) (hn : bd noon) (hV : VQ D K noon w I) (hp : 0 ≤ p ∧ p < D 339 1) (hl2 : (w.length : Int) ≤ 1600) (hw : PW1 2 B 64 w) (hB : ∀ v, B v → bd v) :
    CN X 3 mX1_valueFor [(2, 127), (0, p), (2, 68)] I R (fun v I' R' => v.2 = vlQ D K noon w p ∧ VQ D K noon w I' ∧ FR vF I I' ∧ R' = R) :=
  Callee.mono (c_valueFor hs hr1 hG hK hn hV.1 hp hV.2.1 (fun h => hV.2.2.1 h p hp.1 hp.2) hV.2.2.2.1 hl2 hV.2.2.2.2.1 hw hB) (fun v I' R' q => by
    obtain ⟨q1, q2, q3, q4⟩ := q
    exact ⟨q1, hV.fr hG q2 q3, q2, q4⟩)
theorem c_answerTest {X : CX} {I R D K : PF} {noon kk : Int} {w : List Int} (hs : Shp R) (hr1 : R 127 1 = 111) (hG : GD D) (hK : KG D K) (hn : bd noon) (hV : VQ D K noon w I) (hl2 : (w.length : Int) ≤ 1600) (hw : PW1 2 b01 64 w) (hk : 0 ≤ kk ∧ kk < 3) :
    CN X 4 mX10_answerTest [(2, 64), (2, 32 + kk)] I R (fun v I' R' => v.2 = anV kk (vlQ D K noon w) (D 339 1).toNat ∧ VQ D K noon w I' ∧ FR vF I I' ∧ R' = R) := by
  refine callee_b (by decide +kernel) (Nat.le_of_ble_eq_true rfl) rfl ?_
  have hD := hG.2.1
  have lp : ∀ (m k : Nat) (J : PF), (D 339 1).toNat - k < m → k ≤ (D 339 1).toNat → VQ D K noon w J → FR vF I J → PN X 4 mX10_answerTest 10 [(2, 64), (2, 32 + kk), (0, aFs (vlQ D K noon w) k), (0, aL (vlQ D K noon w) k), (0, aO (vlQ D K noon w) k), (0, (k : Int))] [] J R (fun v I' R' => v.2 = anV kk (vlQ D K noon w) (D 339 1).toNat ∧ VQ D K noon w I' ∧ FR vF I I' ∧ R' = R) := by
    intro m
    induction m with
    | zero => intro k J h; exact absurd h (Nat.not_lt_zero _)
    | succ m ih =>
      intro k J hm hk' hVJ f
      have e3 : J 111 3 = D 339 1 := hVJ.1.1.2.2.2
      have o := aO_r (vlQ D K noon w) k
      have fr := aFs_r (vlQ D K noon w) k
      have lr := aL_r (vlQ D K noon w) k
      refine S_X10_answerTest_10 hs (by omega) (by omega) (fun g => ?_) (fun g => ?_)
      · obtain rfl : k = (D 339 1).toNat := by omega
        refine S_X10_answerTest_62 (by omega) (fun g2 => S_X10_answerTest_73 (by omega) (fun g3 => S_X10_answerTest_85 (by omega) (S_X10_answerTest_87 ⟨?_, hVJ, f, rfl⟩)) (fun g3 => S_X10_answerTest_80 (by omega) (S_X10_answerTest_87 ⟨?_, hVJ, f, rfl⟩))) (fun g2 => S_X10_answerTest_69 (by omega) ⟨?_, hVJ, f, rfl⟩)
        · unfold anV; rw [if_neg (by omega), if_pos (by omega)]
        · unfold anV; rw [if_pos (by omega)]
        · unfold anV; rw [if_neg (by omega), if_neg (by omega), if_pos (by omega)]
      rw [e3] at g
      have vb := vlQ_B hG hK hn ⟨by omega, g⟩ hw
      refine S_X10_answerTest_22 (d1 := 3) hs (by omega) (c_vF hs hr1 hG hK hn hVJ ⟨by omega, g⟩ hl2 hw (fun v h => b01_bd h)) (fun z J1 R1 r => ?_)
      obtain ⟨(hz : z = _), hV1, f1, rfl⟩ := r
      have nx := ih (k + 1) J1 (by omega) (by omega) hV1 (f.tr f1)
      rw [show ((k + 1 : Nat) : Int) = (k : Int) + 1 by omega] at nx
      unfold b01 at vb
      rw [hz]
      refine S_X10_answerTest_35 (by omega) (fun g2 => ?_) (fun g2 => ?_)
      · rw [aFs, if_neg (fun c => c.1 g2), aL, if_neg (fun c => c g2), aO, if_neg (fun c => c g2)] at nx
        exact S_X10_answerTest_56 nx
      · rw [aL, if_pos g2, aO, if_pos g2] at nx
        refine S_X10_answerTest_38 (by omega) (fun g3 => S_X10_answerTest_48 (S_X10_answerTest_49 (S_X10_answerTest_56 ?_))) (fun g3 => S_X10_answerTest_43 (S_X10_answerTest_49 (S_X10_answerTest_56 ?_)))
        · rw [aFs, if_neg (fun c => g3 c.2)] at nx; exact nx
        · rw [aFs, if_pos ⟨g2, g3⟩] at nx; exact nx
  exact S_X10_answerTest_0 (lp 10 0 I (by omega) (by omega) hV FR.rf)
theorem c_answerSum {X : CX} {I R D K : PF} {noon kk : Int} {w : List Int} (hs : Shp R) (hr1 : R 127 1 = 111) (hG : GD D) (hK : KG D K) (hn : bd noon) (hV : VQ D K noon w I) (hl2 : (w.length : Int) ≤ 1600) (hw : PW1 2 bd 64 w) (hk : 3 ≤ kk ∧ kk < 6) :
    CN X 4 mX10_answerSum [(2, 64), (2, 32 + kk)] I R (fun v I' R' => v.2 = anV kk (vlQ D K noon w) (D 339 1).toNat ∧ VQ D K noon w I' ∧ FR vF I I' ∧ R' = R) := by
  refine callee_b (by decide +kernel) (Nat.le_of_ble_eq_true rfl) rfl ?_
  have hD := hG.2.1
  have lp : ∀ (m k : Nat) (J : PF), (D 339 1).toNat - k < m → k ≤ (D 339 1).toNat → VQ D K noon w J → FR vF I J → PN X 4 mX10_answerSum 11 [(2, 64), (2, 32 + kk), (1, aT (vlQ D K noon w) k), (9, 0), (0, aM (vlQ D K noon w) k), (0, aN (vlQ D K noon w) k), (0, (k : Int))] [] J R (fun v I' R' => v.2 = anV kk (vlQ D K noon w) (D 339 1).toNat ∧ VQ D K noon w I' ∧ FR vF I I' ∧ R' = R) := by
    intro m
    induction m with
    | zero => intro k J h; exact absurd h (Nat.not_lt_zero _)
    | succ m ih =>
      intro k J hm hk' hVJ f
      have e3 : J 111 3 = D 339 1 := hVJ.1.1.2.2.2
      obtain ⟨mr, nr⟩ := aM_r (vl := vlQ D K noon w) k (fun p p0 p1 => vlQ_B hG hK hn ⟨p0, by omega⟩ hw)
      have tr := aT_r (vl := vlQ D K noon w) k (fun p p0 p1 => vlQ_B hG hK hn ⟨p0, by omega⟩ hw)
      unfold bd at mr nr
      refine S_X10_answerSum_11 hs (by omega) (by omega) (fun g => ?_) (fun g => ?_)
      · obtain rfl : k = (D 339 1).toNat := by omega
        refine S_X10_answerSum_88 (by omega) (fun g2 => S_X10_answerSum_97 (by omega) (fun g3 => S_X10_answerSum_110 (by omega) (S_X10_answerSum_113 ⟨?_, hVJ, f, rfl⟩)) (fun g3 => S_X10_answerSum_104 (by omega) (S_X10_answerSum_113 ⟨?_, hVJ, f, rfl⟩))) (fun g2 => S_X10_answerSum_95 ⟨?_, hVJ, f, rfl⟩)
        · unfold anV; rw [if_neg (by omega), if_neg (by omega), if_neg (by omega), if_neg (by omega), if_neg (by omega)]
        · unfold anV; rw [if_neg (by omega), if_neg (by omega), if_neg (by omega), if_neg (by omega), if_pos (by omega)]
        · unfold anV; rw [if_neg (by omega), if_neg (by omega), if_neg (by omega), if_pos (by omega)]
      rw [e3] at g
      have vb := vlQ_B hG hK hn ⟨by omega, g⟩ hw
      refine S_X10_answerSum_23 (d1 := 3) hs (by omega) (c_vF hs hr1 hG hK hn hVJ ⟨by omega, g⟩ hl2 hw (fun v h => h)) (fun z J1 R1 r => ?_)
      obtain ⟨(hz : z = _), hV1, f1, rfl⟩ := r
      have nx := ih (k + 1) J1 (by omega) (by omega) hV1 (f.tr f1)
      rw [show ((k + 1 : Nat) : Int) = (k : Int) + 1 by omega, aT] at nx
      unfold bd at vb
      rw [hz]
      refine S_X10_answerSum_36 (by omega) (by omega) (fun g2 => ?_) (fun g2 => ?_)
      · have kn : k ≠ 0 := by omega
        refine S_X10_answerSum_54 (d1 := 0) (by omega) (c_max (by unfold inR; omega) (by unfold inR; omega)) (fun z2 J2 R2 r => ?_)
        obtain ⟨(hz2 : z2 = _), rfl, rfl⟩ := r
        rw [hz2]
        refine S_X10_answerSum_61 (by omega) (fun _ => ?_) (fun c => absurd c g2)
        refine S_X10_answerSum_73 (d1 := 0) (by omega) (c_min (by unfold inR; omega) (by unfold inR; omega)) (fun z3 J3 R3 r => ?_)
        obtain ⟨(hz3 : z3 = _), rfl, rfl⟩ := r
        rw [hz3]
        rw [aM, if_neg kn, aN, if_neg kn] at nx
        exact S_X10_answerSum_80 nx
      · have kn : k = 0 := by omega
        rw [aM, if_pos kn, aN, if_pos kn] at nx
        exact S_X10_answerSum_49 (S_X10_answerSum_61 (by omega) (fun c => absurd g2 c) (fun _ => S_X10_answerSum_68 (S_X10_answerSum_80 nx)))
  exact S_X10_answerSum_0 (lp 10 0 I (by omega) (by omega) hV FR.rf)
/-- what the model takes of a person -/
def tkV (kk v p cur fst : Int) : Int := if kk = 0 then (if v = 1 ∧ cur = -1 then p else cur) else if kk = 1 then (if v = 1 then p else cur) else if kk = 2 then (if v = 1 then cur + 1 else cur) else if kk = 3 then cur + v else if kk = 4 then (if fst ≠ 0 ∨ cur < v then v else cur) else (if fst ≠ 0 ∨ v < cur then v else cur)
theorem c_qTakes {X : CX} {I R : PF} {kk v p : Int} (hk : 0 ≤ kk ∧ kk < 6) (hv : bd v) (hp : 0 ≤ p ∧ p < 6) (hc : -9000000 ≤ I 306 111 ∧ I 306 111 ≤ 9000000) (hf : I 306 112 = 0 ∨ I 306 112 = 1) :
    CN X 0 mX11_qTakes [(2, 306), (0, kk), (1, v), (0, p)] I R (fun _ I' R' => I' 306 111 = tkV kk v p (I 306 111) (I 306 112) ∧ I' 306 112 = 0 ∧ FR (fun x y => x = 306 ∧ (y = 111 ∨ y = 112)) I I' ∧ R' = R) := by
  refine callee_b (by decide +kernel) (Nat.le_of_ble_eq_true rfl) rfl ?_
  unfold bd at hv
  have fin : ∀ J : PF, J 306 111 = tkV kk v p (I 306 111) (I 306 112) → FR (fun x y => x = 306 ∧ y = 111) I J → PN X 0 mX11_qTakes 133 [(2, 306)] [] J R (fun _ I' R' => I' 306 111 = tkV kk v p (I 306 111) (I 306 112) ∧ I' 306 112 = 0 ∧ FR (fun x y => x = 306 ∧ (y = 111 ∨ y = 112)) I I' ∧ R' = R) := fun J h f =>
    S_X11_qTakes_133 ⟨by rw [u2_j (by decide)]; exact h, u2_at, (f.mono (fun x y c => ⟨c.1, Or.inl c.2⟩)).tr (FR_u2 ⟨rfl, Or.inr rfl⟩), rfl⟩
  have e90 : kk ≤ 3 → ∀ J : PF, J 306 111 = tkV kk v p (I 306 111) (I 306 112) → FR (fun x y => x = 306 ∧ y = 111) I J → PN X 0 mX11_qTakes 90 [(2, 306), (0, kk), (1, v)] [] J R (fun _ I' R' => I' 306 111 = tkV kk v p (I 306 111) (I 306 112) ∧ I' 306 112 = 0 ∧ FR (fun x y => x = 306 ∧ (y = 111 ∨ y = 112)) I I' ∧ R' = R) := fun h3 J h f =>
    S_X11_qTakes_90 (by omega) (fun _ => fin J h f) (fun g => by omega)
  have e75 : kk < 3 → ∀ J : PF, J 306 111 = tkV kk v p (I 306 111) (I 306 112) → FR (fun x y => x = 306 ∧ y = 111) I J → PN X 0 mX11_qTakes 75 [(2, 306), (0, kk), (1, v)] [] J R (fun _ I' R' => I' 306 111 = tkV kk v p (I 306 111) (I 306 112) ∧ I' 306 112 = 0 ∧ FR (fun x y => x = 306 ∧ (y = 111 ∨ y = 112)) I I' ∧ R' = R) := fun h3 J h f =>
    S_X11_qTakes_75 (by omega) (fun _ => e90 (by omega) J h f) (fun g => by omega)
  have e55 : kk < 2 → ∀ (b : Int) (J : PF), J 306 111 = tkV kk v p (I 306 111) (I 306 112) → FR (fun x y => x = 306 ∧ y = 111) I J → PN X 0 mX11_qTakes 55 [(2, 306), (0, kk), (1, v), (9, 0), (9, 0), (0, b)] [] J R (fun _ I' R' => I' 306 111 = tkV kk v p (I 306 111) (I 306 112) ∧ I' 306 112 = 0 ∧ FR (fun x y => x = 306 ∧ (y = 111 ∨ y = 112)) I I' ∧ R' = R) := fun h3 b J h f =>
    S_X11_qTakes_55 (by omega) (fun _ => e75 (by omega) J h f) (fun g => by omega)
  have e48 : kk < 2 → ∀ (b : Int), p = tkV kk v p (I 306 111) (I 306 112) → PN X 0 mX11_qTakes 48 [(2, 306), (0, kk), (1, v), (9, 0), (0, p), (0, b)] [] I R (fun _ I' R' => I' 306 111 = tkV kk v p (I 306 111) (I 306 112) ∧ I' 306 112 = 0 ∧ FR (fun x y => x = 306 ∧ (y = 111 ∨ y = 112)) I I' ∧ R' = R) := fun h3 b h =>
    S_X11_qTakes_48 (by omega) (e55 h3 b _ (by rw [u2_at]; exact h) (FR_u2 ⟨rfl, rfl⟩))
  -- the flag
  have go : ∀ b : Int, (kk < 3 → (b = 1 ∧ v = 1 ∨ b = 0 ∧ v ≠ 1)) → (b = 0 ∨ b = 1) → PN X 0 mX11_qTakes 16 [(2, 306), (0, kk), (1, v), (9, 0), (0, p)] [(0, b)] I R (fun _ I' R' => I' 306 111 = tkV kk v p (I 306 111) (I 306 112) ∧ I' 306 112 = 0 ∧ FR (fun x y => x = 306 ∧ (y = 111 ∨ y = 112)) I I' ∧ R' = R) := fun b hb hb2 => by
    have s38 : kk ≠ 0 → kk ≠ 1 → PN X 0 mX11_qTakes 38 [(2, 306), (0, kk), (1, v), (9, 0), (0, p), (0, b)] [] I R (fun _ I' R' => I' 306 111 = tkV kk v p (I 306 111) (I 306 112) ∧ I' 306 112 = 0 ∧ FR (fun x y => x = 306 ∧ (y = 111 ∨ y = 112)) I I' ∧ R' = R) := fun h0 h1 => by
      refine S_X11_qTakes_38 (by omega) (fun _ => ?_) (fun g => absurd g h1)
      refine S_X11_qTakes_55 (by omega) (fun h2 => ?_) (fun h2 => ?_)
      · refine S_X11_qTakes_75 (by omega) (fun h3 => ?_) (fun h3 => S_X11_qTakes_80 (e90 (by omega) _ ?_ (FR_u2 ⟨rfl, rfl⟩)))
        · have t4 : tkV kk v p (I 306 111) (I 306 112) = if kk = 4 then (if I 306 112 ≠ 0 ∨ I 306 111 < v then v else I 306 111) else (if I 306 112 ≠ 0 ∨ v < I 306 111 then v else I 306 111) := by
            unfold tkV; rw [if_neg h0, if_neg h1, if_neg h2, if_neg h3]
          have s128 : v = tkV kk v p (I 306 111) (I 306 112) → PN X 0 mX11_qTakes 128 [(2, 306), (9, 0), (1, v)] [] I R (fun _ I' R' => I' 306 111 = tkV kk v p (I 306 111) (I 306 112) ∧ I' 306 112 = 0 ∧ FR (fun x y => x = 306 ∧ (y = 111 ∨ y = 112)) I I' ∧ R' = R) := fun h => S_X11_qTakes_128 (fin _ (by rw [u2_at]; exact h) (FR_u2 ⟨rfl, rfl⟩))
          refine S_X11_qTakes_90 (by omega) (fun g => by omega) (fun _ => S_X11_qTakes_95 (by omega) (fun g => s128 ?_) (fun g => ?_))
          · rw [t4]
            by_cases c : kk = 4
            · rw [if_pos c, if_pos (Or.inl g)]
            · rw [if_neg c, if_pos (Or.inl g)]
          refine S_X11_qTakes_102 (by omega) (fun c => ?_) (fun c => ?_)
          · refine S_X11_qTakes_119 (by omega) (by omega) (fun g2 => fin I ?_ FR.rf) (fun g2 => s128 ?_)
            · rw [t4, if_neg c, if_neg (by omega)]
            · rw [t4, if_neg c, if_pos (Or.inr g2)]
          · refine S_X11_qTakes_107 (by omega) (by omega) (fun g2 => fin I ?_ FR.rf) (fun g2 => S_X11_qTakes_116 (s128 ?_))
            · rw [t4, if_pos c, if_neg (by omega)]
            · rw [t4, if_pos c, if_pos (Or.inr g2)]
        · rw [u2_at]; unfold tkV; rw [if_neg h0, if_neg h1, if_neg h2, if_pos h3]
      · have hb' := hb (by omega)
        have t2 : tkV kk v p (I 306 111) (I 306 112) = if v = 1 then I 306 111 + 1 else I 306 111 := by unfold tkV; rw [if_neg h0, if_neg h1, if_pos h2]
        refine S_X11_qTakes_60 (by omega) (fun g => e75 (by omega) I ?_ FR.rf) (fun g => S_X11_qTakes_65 (e75 (by omega) _ ?_ (FR_u2 ⟨rfl, rfl⟩)))
        · rw [t2, if_neg (by omega)]
        · rw [u2_at, t2, if_pos (by omega)]
    refine S_X11_qTakes_16 (by omega) (fun h0 => ?_) (fun h0 => ?_)
    · by_cases h1 : kk = 1
      · have hb' := hb (by omega)
        have t1 : tkV kk v p (I 306 111) (I 306 112) = if v = 1 then p else I 306 111 := by unfold tkV; rw [if_neg h0, if_pos h1]
        refine S_X11_qTakes_38 (by omega) (fun g => absurd h1 g) (fun _ => S_X11_qTakes_43 (by omega) (fun g => e55 (by omega) b I ?_ FR.rf) (fun g => e48 (by omega) b ?_))
        · rw [t1, if_neg (by omega)]
        · rw [t1, if_pos (by omega)]
      · exact s38 h0 h1
    · have hb' := hb (by omega)
      have t0 : tkV kk v p (I 306 111) (I 306 112) = if v = 1 ∧ I 306 111 = -1 then p else I 306 111 := by unfold tkV; rw [if_pos h0]
      have n38 : ¬ (v = 1 ∧ I 306 111 = -1) → PN X 0 mX11_qTakes 38 [(2, 306), (0, kk), (1, v), (9, 0), (0, p), (0, b)] [] I R (fun _ I' R' => I' 306 111 = tkV kk v p (I 306 111) (I 306 112) ∧ I' 306 112 = 0 ∧ FR (fun x y => x = 306 ∧ (y = 111 ∨ y = 112)) I I' ∧ R' = R) := fun c =>
        S_X11_qTakes_38 (by omega) (fun _ => e55 (by omega) b I (by rw [t0, if_neg c]) FR.rf) (fun g => by omega)
      refine S_X11_qTakes_22 (by omega) (fun g => n38 (by omega)) (fun g => S_X11_qTakes_27 (by omega) (fun g2 => e48 (by omega) b ?_) (fun g2 => n38 (fun c => g2 c.2)))
      rw [t0, if_pos ⟨by omega, g2⟩]
  refine S_X11_qTakes_0 (by omega) (fun g => S_X11_qTakes_15 (go 0 (fun c => by omega) (Or.inl rfl))) (fun g => S_X11_qTakes_5 (by omega) (fun g2 => S_X11_qTakes_15 (go 0 (fun _ => Or.inr ⟨rfl, g2⟩) (Or.inl rfl))) (fun g2 => S_X11_qTakes_11 (go 1 (fun _ => Or.inl ⟨rfl, g2⟩) (Or.inr rfl))))
/-- the model's answer grows as the class's -/
theorem tkV_an {vl : Int → Int} {kk : Int} {k : Nat} (hk : 0 ≤ kk ∧ kk < 6) (hb : kk < 3 → vl k = 0 ∨ vl k = 1) : tkV kk (vl k) k (if k = 0 then (if kk < 2 then -1 else 0) else anV kk vl k) (if k = 0 then 1 else 0) = anV kk vl (k + 1) := by
  have z : (if k = 0 then (if kk < 2 then (-1 : Int) else 0) else anV kk vl k) = anV kk vl k := by
    by_cases c : k = 0
    · subst c
      rw [if_pos rfl]
      unfold anV aFs aL aO aT aM aN
      repeat' split
      all_goals omega
    · rw [if_neg c]
  rw [z]
  have fr := aFs_r vl k
  have lr := aL_r vl k
  rcases (show kk = 0 ∨ kk = 1 ∨ kk = 2 ∨ kk = 3 ∨ kk = 4 ∨ kk = 5 by omega) with rfl | rfl | rfl | rfl | rfl | rfl
  · have b := hb (by decide)
    show (if vl k = 1 ∧ aFs vl k = -1 then (k : Int) else aFs vl k) = aFs vl (k + 1)
    rw [aFs]
    by_cases c : vl k = 1 ∧ aFs vl k = -1
    · rw [if_pos c, if_pos ⟨by omega, fr.1.mp c.2⟩]
    · rw [if_neg c, if_neg (fun d => c ⟨by omega, fr.1.mpr d.2⟩)]
  · have b := hb (by decide)
    show (if vl k = 1 then (k : Int) else aL vl k) = aL vl (k + 1)
    rw [aL]
    by_cases c : vl k = 1
    · rw [if_pos c, if_pos (by omega)]
    · rw [if_neg c, if_neg (by omega)]
  · have b := hb (by decide)
    show (if vl k = 1 then aO vl k + 1 else aO vl k) = aO vl (k + 1)
    rw [aO]
    by_cases c : vl k = 1
    · rw [if_pos c, if_pos (by omega)]
    · rw [if_neg c, if_neg (by omega)]
  · rfl
  · show (if (if k = 0 then (1 : Int) else 0) ≠ 0 ∨ aM vl k < vl k then vl k else aM vl k) = aM vl (k + 1)
    rw [aM]
    by_cases c : k = 0
    · rw [if_pos c, if_pos c, if_pos (Or.inl (by decide))]
    · rw [if_neg c, if_neg c]
      split <;> omega
  · show (if (if k = 0 then (1 : Int) else 0) ≠ 0 ∨ vl k < aN vl k then vl k else aN vl k) = aN vl (k + 1)
    rw [aN]
    by_cases c : k = 0
    · rw [if_pos c, if_pos c, if_pos (Or.inl (by decide))]
    · rw [if_neg c, if_neg c]
      split <;> omega
