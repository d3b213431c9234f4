/-! ===== the model goes on behind a fact: and, or, none ===== -/
noncomputable def nxtT (t : Int → Int) (n : Int) (y : Y4) : (Bool × Y4) ⊕ (Int × Int) :=
  if tw t n (.inl y.1) = 21867813 then .inl (true, (run isL t n (skp t n y.1.1), true), 10 :: dwU p10 y.2.1, dwC p10 y.2.1 y.2.2.1, y.2.2.2)
  else if tw t n (.inl y.1) = 224799543 then .inl (true, (run isL t n (skp t n y.1.1), true), 11 :: dwU p1011 y.2.1, dwC p1011 y.2.1 y.2.2.1, y.2.2.2)
  else if 25 ∈ y.2.1 then .inr (1, skp t n y.1.1) else .inl (false, y)
noncomputable def goesT (t : Int → Int) (n : Int) (k : Nat) (y : Y4) : (Bool × Y4) ⊕ (Int × Int) := nxtT t n (clsT t n k y)
def TRes (t : Int → Int) (n tk m : Int) (r : (Bool × Y4) ⊕ (Int × Int)) (v : Int) (I : PF) : Prop := match r with
  | .inl y => v = (if y.1 = true then 1 else 0) ∧ YSt t n tk [] y.2 I ∧ BOK y.2.2.1
  | .inr f => v = 0 ∧ YBd t n tk m [] f I
theorem c_qGoesOnTest {X : CX} {I R : PF} {t : Int → Int} {n tk : Int} {y : Y4} {k : Nat} (hs : Shp R) (hk : (n - y.1.1).toNat < k) (hB : BOK y.2.1) (h : YSt t n tk [] y I) :
    CN X 4 mX11_qGoesOnTest [(2, 306)] I R (fun v I' R' => TRes t n tk 0 (goesT t n k y) v.2 I' ∧ FR mY I I' ∧ R' = R) := by
  refine callee_b (by decide +kernel) (Nat.le_of_ble_eq_true rfl) rfl ?_
  refine clsT_loop hs (by omega) k y I hk hB h (fun I1 y1 hB1 f1 => ?_)
  have eg : goesT t n k y = nxtT t n (clsT t n k y) := rfl
  rw [eg]
  generalize clsT t n k y = yc at *
  clear eg
  obtain ⟨q, U, C, o⟩ := yc
  have y1' := y1
  obtain ⟨m1, k1, o1, t1, t2, c1, c2, l1, w1⟩ := y1'
  simp only at m1 k1 o1 c1 c2 l1 hB1
  rw [List.append_nil] at c1
  have mle := m1.le
  have join : ∀ (p : Int → Bool) (w : Int) (I2 I3 : PF), FR mY I I2 → isW t n q → MSt t n (.inl (run isL t n (skp t n q.1), true)) I2 → I2 306 107 = o → KSt I3 (dwU p U) [] (dwC p U C) → FR mD I2 I3 → (10 ≤ w ∧ w ≤ 11) →
      TRes t n tk 0 (.inl (true, (run isL t n (skp t n q.1), true), w :: dwU p U, dwC p U C, o)) 1 (u2 (u2 I3 380 (I3 306 106) w) 306 106 ((u2 I3 380 (I3 306 106) w) 306 106 + 1)) ∧ FR mY I (u2 (u2 I3 380 (I3 306 106) w) 306 106 ((u2 I3 380 (I3 306 106) w) 306 106 + 1)) := fun p w I2 I3 f2 hW m2 o2 k3 f3 hw => by
    have g1 : FR (fun x y => x = 380 ∧ y = I3 306 106) I3 (u2 I3 380 (I3 306 106) w) := FR_u2 ⟨rfl, rfl⟩
    have e1 : (u2 I3 380 (I3 306 106) w) 306 106 = I3 306 106 := g1 _ _ (fun c => by omega)
    rw [e1]
    have g2 : FR (fun x y => x = 306 ∧ y = 106) (u2 I3 380 (I3 306 106) w) (u2 (u2 I3 380 (I3 306 106) w) 306 106 (I3 306 106 + 1)) := FR_u2 ⟨rfl, rfl⟩
    have gq : FR mQ I3 (u2 (u2 I3 380 (I3 306 106) w) 306 106 (I3 306 106 + 1)) := (g1.mono (fun x y c => by unfold mQ; omega)).tr (g2.mono (fun x y c => by unfold mQ; omega))
    have f4 : FR mY I (u2 (u2 I3 380 (I3 306 106) w) 306 106 (I3 306 106 + 1)) := (f2.tr (f3.mono (fun x y c => Or.inr (by unfold mD at c; unfold mQ; omega)))).tr gq.qY
    have hl := dw_len p U C
    have ho := dw_oc p U
    have lt := goT_lt hW
    have hw3 := k3.w
    have hl3 := k3.le
    refine ⟨⟨rfl, ⟨(m2.q (f3.mono (fun x y c => by unfold mD at c; unfold mQ; omega))).q gq, ⟨?_, ?_, ?_, ?_, ?_⟩, ?_, (mY56 f4).trans (by rw [h.2.2.2.1]), t2, ?_, c2, ?_, h.2.2.2.2.2.2.2.2.y f4⟩, ?_⟩, f4⟩
    · rw [u2_at]; exact (k3.1.push).fr (fun i _ _ => g2 380 i (fun c => by omega))
    · rw [g2 306 104 (fun c => by omega), g1 306 104 (fun c => by omega)]
      exact k3.2.1.fr (fun i _ _ => (g2 379 i (fun c => by omega)).trans (g1 379 i (fun c => by omega)))
    · rw [g2 306 108 (fun c => by omega), g1 306 108 (fun c => by omega)]; exact k3.2.2.1
    · simp only [List.cons_append, List.length_cons, List.length_append, List.length_nil] at l1 ⊢; omega
    · intro v hv
      rcases List.mem_cons.mp hv with e | hv
      · rw [e]; exact ⟨by omega, by omega⟩
      · exact k3.2.2.2.2 v hv
    · rw [g2 306 107 (fun c => by omega), g1 306 107 (fun c => by omega), f3 306 107 (fun c => by unfold mD at c; omega)]; exact o2
    · simp only [List.cons_append, List.append_nil, oc]; rw [if_neg (by omega)]; omega
    · simp only [List.length_cons, List.length_nil] at l1 ⊢; omega
    · intro v hv
      rcases List.mem_cons.mp hv with e | hv
      · omega
      · exact hB1 v (dw_sub p U v hv)
  refine S_X11_qGoesOnTest_76 (d1 := 3) hs (by omega) (w_takes (a := 362) (c := 21867813) (by decide) hs m1 w1) (fun z I2 R2 qq => ?_)
  obtain ⟨(z1 : z = _), m2, f2, rfl, a2⟩ := qq
  have k2 := k1.rd f2
  have o2 := (rd107 f2).trans o1
  have g2 := f1.tr f2.rdY
  refine S_X11_qGoesOnTest_84 (by have := bi_r (tw t n (.inl q) = 21867813); omega) (fun g => ?_) (fun g => ?_)
  rotate_left
  · have c := bi_1 (fun c => g (z1.trans c))
    have e : takW t n 21867813 (.inl q) = .inl (run isL t n (skp t n q.1), true) := if_pos c
    rw [e] at m2
    have eN : nxtT t n (q, U, C, o) = .inl (true, (run isL t n (skp t n q.1), true), 10 :: dwU p10 U, dwC p10 U C, o) := if_pos c
    rw [eN]
    refine an_loop hs (by omega) U C I2 k2 (fun I3 k3 f3 => ?_)
    have hw3 := k3.w
    have hl3 := k3.le
    simp only [List.length_nil] at hw3 hl3
    have j := join p10 10 I2 I3 g2 (tw_w c (by decide)) m2 o2 k3 f3 (by decide)
    exact S_X11_qGoesOnTest_103 hs (by omega) ⟨j.1, j.2, rfl⟩
  have cA := bi_0 (z1.symm.trans g)
  have e : takW t n 21867813 (.inl q) = .inl q := if_neg cA
  rw [e] at m2
  refine S_X11_qGoesOnTest_126 (d1 := 3) hs (by omega) (w_takes (a := 363) (c := 224799543) (by decide) hs m2 (w1.rd f2)) (fun z3 I3 R3 qq => ?_)
  obtain ⟨(z3' : z3 = _), m3, f3, rfl, a3⟩ := qq
  have k3 := k2.rd f3
  have o3 := (rd107 f3).trans o2
  have g3 := g2.tr f3.rdY
  refine S_X11_qGoesOnTest_134 (by have := bi_r (tw t n (.inl q) = 224799543); omega) (fun g => ?_) (fun g => ?_)
  rotate_left
  · have c := bi_1 (fun c => g (z3'.trans c))
    have e : takW t n 224799543 (.inl q) = .inl (run isL t n (skp t n q.1), true) := if_pos c
    rw [e] at m3
    have eN : nxtT t n (q, U, C, o) = .inl (true, (run isL t n (skp t n q.1), true), 11 :: dwU p1011 U, dwC p1011 U C, o) := (if_neg cA).trans (if_pos c)
    rw [eN]
    refine or_loop hs (by omega) U C I3 k3 (fun I4 k4 f4 => ?_)
    have hw3 := k4.w
    have hl3 := k4.le
    simp only [List.length_nil] at hw3 hl3
    have j := join p1011 11 I3 I4 g3 (tw_w c (by decide)) m3 o3 k4 f4 (by decide)
    exact S_X11_qGoesOnTest_162 hs (by omega) ⟨j.1, j.2, rfl⟩
  have cO := bi_0 (z3'.symm.trans g)
  have e : takW t n 224799543 (.inl q) = .inl q := if_neg cO
  rw [e] at m3
  have a3 := a3 q rfl cO
  have eN : nxtT t n (q, U, C, o) = (if 25 ∈ U then .inr (1, skp t n q.1) else .inl (false, q, U, C, o)) := (if_neg cA).trans (if_neg cO)
  rw [eN]
  refine S_X11_qGoesOnTest_185 (by rw [m3.ok]; decide) (fun g => absurd m3.ok g) (fun _ => ?_)
  refine S_X11_qGoesOnTest_192 (d1 := 0) (by omega) (c_qHasSquare hs k3) (fun z4 I4 R4 qq => ?_)
  obtain ⟨(b1 : z4 = _), rfl, rfl⟩ := qq
  rw [List.append_nil] at b1
  refine S_X11_qGoesOnTest_196 (by have := bi_r (25 ∈ U); omega) (fun g1 => ?_) (fun g1 => ?_)
  · rw [if_neg (bi_0 (b1.symm.trans g1))]
    exact S_X11_qGoesOnTest_208 ⟨⟨rfl, ⟨m3, k3, o3, (mY56 g3).trans h.2.2.2.1, t2, by simp only [List.append_nil]; exact c1, c2, l1, h.2.2.2.2.2.2.2.2.y g3⟩, hB1⟩, g3, rfl⟩
  · rw [if_pos (bi_1 (fun c => g1 (b1.trans c)))]
    refine S_X11_qGoesOnTest_199 (d1 := 1) (by omega) (c_fail m3.r5) (fun z9 I9 R9 qq => ?_)
    obtain ⟨q6, rfl⟩ := qq
    rw [if_pos m3.ok] at q6
    subst q6
    have gg : FR mRd I4 (u2 (u2 I4 306 5 1) 306 6 (I4 306 2)) := (FR_u2 ⟨rfl, by decide⟩).tr (FR_u2 ⟨rfl, by decide⟩)
    have f9 := g3.tr gg.rdY
    exact S_X11_qGoesOnTest_208 ⟨⟨rfl, m3.fail a3 (by decide) (by decide), ⟨U, C, k3.rd gg, by omega⟩, (mY56 f9).trans h.2.2.2.1, h.2.2.2.2.2.2.2.2.y f9⟩, f9, rfl⟩
