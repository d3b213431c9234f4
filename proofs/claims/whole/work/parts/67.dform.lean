/-! ===== the class reads formulas ===== -/
/-- the class's codes for the model's -/
def dc (c : Int) : Int := if 1000 ≤ c then c - 1000 else if c = 60 then -32 else if c = 40 then -11 else if c = 41 then -12 else if c = 42 then -3 else if c = 43 then -4 else if c = 44 then -8 else if c = 45 then -10 else if c = 46 then -9 else if c = 47 then -1 else if c = 48 then -2 else if c = 49 then -7 else if c = 50 then -13 else if c = 13 then 1 else -19 - c
def wh (tk : Int) : Int := if tk = 0 then 1 else if tk = 1 then 2 else 4
def FC (t : Int → Int) (n tk f : Int) (q : Int × Bool) (C : List Int) (b : Int) (I R : PF) : Prop := DSt t n (.inl q) I R ∧ R 71 1 = f ∧ kd MF f = 2 ∧ I 71 2 = wh tk ∧ I 71 3 = 6 - b ∧ Stk I (f + 1) (C.map dc) (I f 2)
def fF (f x y : Int) : Prop := sF x y ∨ (x = 71 ∧ y = 3) ∨ (x = f ∧ y = 2) ∨ x = f + 1
theorem fm_ne {f : Int} (h : kd MF f = 2) : (f ≠ 65 ∧ f ≠ 67 ∧ f ≠ 71 ∧ f ≠ 64 ∧ f ≠ 110 ∧ f ≠ 306) ∧ (f + 1 ≠ 65 ∧ f + 1 ≠ 67 ∧ f + 1 ≠ 71 ∧ f + 1 ≠ 64 ∧ f + 1 ≠ 110 ∧ f + 1 ≠ 306) := by
  have k65 : kd MF 65 = 12 := by decide +kernel
  have k306 : kd MF 306 = 10 := by decide +kernel
  have k := fo1 h
  refine ⟨⟨?_, ?_, ?_, ?_, ?_, ?_⟩, ?_, ?_, ?_, ?_, ?_, ?_⟩
  · intro e; rw [e, k65] at h; omega
  · intro e; rw [e, kM67] at h; omega
  · intro e; rw [e, kM71] at h; omega
  · intro e; rw [e, kM64] at h; omega
  · intro e; rw [e, kM110] at h; omega
  · intro e; rw [e, k306] at h; omega
  · intro e; have e' : f = 64 := by omega
    rw [e', kM64] at h; omega
  · intro e; rw [e, kM67] at k; omega
  · intro e; rw [e, kM71] at k; omega
  · intro e; rw [e, kM64] at k; omega
  · intro e; rw [e, kM110] at k; omega
  · intro e; rw [e, k306] at k; omega
theorem sF_f {f : Int} {I J : PF} (h : FR sF I J) : FR (fF f) I J := h.mono (fun x y c => Or.inl c)
theorem FC.scan {t : Int → Int} {n tk f : Int} {q q' : Int × Bool} {C : List Int} {b : Int} {I R I' R' : PF} (h : FC t n tk f q C b I R) (h1 : DSt t n (.inl q') I' R') (g : FR sF I I') (gr : FR sR R R') : FC t n tk f q' C b I' R' := by
  obtain ⟨a1, a2, a3, a4, a5, a6⟩ := h
  obtain ⟨⟨n1, n2, n3, -⟩, m1, m2, m3, -⟩ := fm_ne a3
  refine ⟨h1, (gr 71 1 (fun c => by unfold sR at c; omega)).trans a2, a3, (g 71 2 (fun c => by unfold sF at c; omega)).trans a4, (g 71 3 (fun c => by unfold sF at c; omega)).trans a5, ?_⟩
  rw [g f 2 (fun c => by unfold sF at c; omega)]
  exact a6.row (funext fun j => g (f + 1) j (fun c => by unfold sF at c; omega))
theorem FC.len {t : Int → Int} {n tk f : Int} {q : Int × Bool} {C : List Int} {b : Int} {I R : PF} (h : FC t n tk f q C b I R) : I f 2 = C.length := by
  have := h.2.2.2.2.2.len
  rw [List.length_map] at this
  exact this
theorem DSt.fr {t : Int → Int} {n : Int} {s : SA} {I I' R : PF} (h : DSt t n s I R) (g67 : I' 67 = I 67) (g65 : I' 65 = I 65) : DSt t n s I' R := by
  have hd : DT t n I → DT t n I' := fun d => ⟨g65.trans d.1, by rw [g67]; exact d.2.1, d.2.2⟩
  cases s with
  | inl q =>
    obtain ⟨⟨a1, a2, a3, a4, a5, a6, a7, a8⟩, a9, a10⟩ := h
    exact ⟨⟨hd a1, a2, a3, by rw [g67]; exact a4, by rw [g67]; exact a5, by rw [g67]; exact a6, by rw [g67]; exact a7, a8⟩, by rw [g67]; exact a9, by rw [g67]; exact a10⟩
  | inr f =>
    obtain ⟨a1, a2, a3, a4⟩ := h
    exact ⟨hd a1, by rw [g67]; exact a2, a3, by rw [g67]; exact a4⟩
theorem c_add {X : CX} {I R : PF} {f x : Int} (hs : Shp R) (hf : kd MF f = 2) (hl : 0 ≤ I f 2 ∧ I f 2 ≤ 1600) : CN X 0 mX2_add [(2, f), (0, x)] I R (fun _ I' R' => (I f 2 < 1600 → I' = u2 (u2 I (f + 1) (I f 2) x) f 2 (I f 2 + 1)) ∧ FR (fun a j => (a = f ∧ j = 2) ∨ a = f + 1) I I' ∧ R' = R) := by
  refine callee_b (by decide +kernel) (Nat.le_of_ble_eq_true rfl) rfl ?_
  refine S_X2_add_0 hs hf (by omega) (fun g => ?_) (fun g => ?_)
  · exact S_X2_add_32 ⟨fun c => by omega, FR.rf, rfl⟩
  · have e : (u2 I (f + 1) (I f 2) x) f 2 = I f 2 := u2_o (by omega)
    refine S_X2_add_12 hs hf (by omega) (S_X2_add_32 ⟨fun _ => by rw [e], FR.tr (FR_u2 (Or.inr rfl)) (FR_u2 (Or.inl ⟨rfl, rfl⟩)), rfl⟩)
theorem c_addC {X : CX} {I R : PF} {t : Int → Int} {n tk f x op : Int} {q : Int × Bool} {C : List Int} {b : Int} (hs : Shp R) (h : FC t n tk f q C b I R) (hl : (C.length : Int) < 1600) (hx : x = dc op) :
    CN X 0 mX2_add [(2, f), (0, x)] I R (fun _ I' R' => FC t n tk f q (op :: C) b I' R' ∧ FR (fF f) I I' ∧ R' = R) := by
  have le := h.len
  have h' := h
  obtain ⟨a1, a2, a3, a4, a5, a6⟩ := h'
  obtain ⟨⟨n1, n2, n3, -⟩, m1, m2, m3, -⟩ := fm_ne a3
  refine (c_add (x := x) hs a3 (by omega)).mono (fun v I' R' p => ?_)
  obtain ⟨p1, p2, rfl⟩ := p
  refine ⟨⟨a1.fr (funext fun j => p2 67 j (fun c => by omega)) (funext fun j => p2 65 j (fun c => by omega)), a2, a3, (p2 71 2 (fun c => by omega)).trans a4, (p2 71 3 (fun c => by omega)).trans a5, ?_⟩, p2.mono (fun a j c => c.elim (fun c => Or.inr (Or.inr (Or.inl c))) (fun c => Or.inr (Or.inr (Or.inr c)))), rfl⟩
  rw [p1 (by omega), u2_at]
  have st : Stk (u2 I (f + 1) (I f 2) x) (f + 1) (dc op :: C.map dc) (I f 2 + 1) := by rw [hx]; exact a6.push
  exact st.row (u2_row (by omega))
theorem c_opens {X : CX} {I R : PF} {t : Int → Int} {n tk f : Int} {q : Int × Bool} {C : List Int} {b : Int} (hs : Shp R) (h : FC t n tk f q C b I R) (hb : 0 ≤ b ∧ b ≤ 6) :
    CN X 2 mX3_opens [(2, 71)] I R (fun v I' R' => (b = 0 ∧ v.2 = 0 ∧ DSt t n (.inr (4, skp t n q.1)) I' R' ∨ 0 < b ∧ v.2 = 1 ∧ FC t n tk f (behT t n q) C (b - 1) I' R') ∧ FR (fF f) I I' ∧ FR sR R R') := by
  refine callee_b (by decide +kernel) (Nat.le_of_ble_eq_true rfl) rfl ?_
  have h' := h
  obtain ⟨a1, a2, a3, a4, a5, a6⟩ := h'
  obtain ⟨⟨n1, n2, n3, -⟩, m1, m2, m3, -⟩ := fm_ne a3
  refine S_X3_opens_0 (by omega) (fun g => ?_) (fun g => ?_)
  · have e3 : (u2 I 71 3 (I 71 3 + 1)) 71 3 = 6 - (b - 1) := by rw [u2_at]; omega
    have h2 : FC t n tk f q C (b - 1) (u2 I 71 3 (I 71 3 + 1)) R := ⟨a1.fr (u2_row (by decide)) (u2_row (by decide)), a2, a3, by rw [u2_j (by decide)]; exact a4, e3, by rw [u2_o (by omega)]; exact a6.row (u2_row (by omega))⟩
    refine S_X3_opens_25 (d1 := 1) hs (by omega) (c_adv hs h2.1) (fun z I2 R2 p => ?_)
    obtain ⟨p1, p2, p3, p4⟩ := p
    exact S_X3_opens_42 ⟨Or.inr ⟨by omega, rfl, h2.scan p1 p3 p4⟩, FR.tr (FR_u2 (Or.inr (Or.inl ⟨rfl, rfl⟩))) (sF_f p3), p4⟩
  · refine S_X3_opens_9 (d1 := 0) hs (by omega) (c_refuse a1 (by decide)) (fun z I2 R2 p => ?_)
    obtain ⟨(p1 : z = 0), p2, p3, rfl⟩ := p
    rw [a1.1.2.2.2.1] at p2
    exact S_X3_opens_24 (by omega) ⟨Or.inl ⟨by omega, p1, p2⟩, sF_f p3, FR.rf⟩
theorem c_closes {X : CX} {I R : PF} {t : Int → Int} {n tk f c : Int} {q : Int × Bool} {C : List Int} {b : Int} (hs : Shp R) (h : FC t n tk f q C b I R) (hb : 0 ≤ b ∧ b ≤ 6) (hc : sgn c) (hr : inR c) :
    CN X 2 mX3_closes [(2, 71), (0, c)] I R (fun v I' R' => (nxt t n (.inl q) ≠ c ∧ v.2 = 0 ∧ DSt t n (.inr (1, skp t n q.1)) I' R' ∨ nxt t n (.inl q) = c ∧ v.2 = 1 ∧ FC t n tk f (skp t n q.1 + 1, false) C (b + 1) I' R') ∧ FR (fF f) I I' ∧ FR sR R R') := by
  refine callee_b (by decide +kernel) (Nat.le_of_ble_eq_true rfl) rfl ?_
  have h' := h
  obtain ⟨a1, a2, a3, a4, a5, a6⟩ := h'
  obtain ⟨⟨n1, n2, n3, -⟩, m1, m2, m3, -⟩ := fm_ne a3
  refine S_X3_closes_0 (d1 := 0) hs (by omega) (c_isSign a1.1 hc hr) (fun z I2 R2 q2 => ?_)
  obtain ⟨(hz : z = _), rfl, rfl⟩ := q2
  have br := bi_r (nxt t n (.inl q) = c)
  refine S_X3_closes_8 (by omega) (fun g => ?_) (fun g => ?_)
  · have g' := bi_1 (by rw [← hz]; exact g)
    have e3 : (u2 I2 71 3 (I2 71 3 - 1)) 71 3 = 6 - (b + 1) := by rw [u2_at]; omega
    have h2 : FC t n tk f q C (b + 1) (u2 I2 71 3 (I2 71 3 - 1)) R2 := ⟨a1.fr (u2_row (by decide)) (u2_row (by decide)), a2, a3, by rw [u2_j (by decide)]; exact a4, e3, by rw [u2_o (by omega)]; exact a6.row (u2_row (by omega))⟩
    refine S_X3_closes_27 (d1 := 1) hs (by omega) (c_advS hs h2.1 g' hc) (fun z I3 R3 p => ?_)
    obtain ⟨p1, p2, p3, p4⟩ := p
    exact S_X3_closes_44 ⟨Or.inr ⟨g', rfl, h2.scan p1 p3 p4⟩, FR.tr (FR_u2 (Or.inr (Or.inl ⟨rfl, rfl⟩))) (sF_f p3), p4⟩
  · have g' := bi_0 (hz.symm.trans g)
    refine S_X3_closes_11 (d1 := 0) hs (by omega) (c_refuse a1 (by decide)) (fun z I3 R3 p => ?_)
    obtain ⟨(p1 : z = 0), p2, p3, rfl⟩ := p
    rw [a1.1.2.2.2.1] at p2
    exact S_X3_closes_26 (by omega) ⟨Or.inl ⟨g', p1, p2⟩, sF_f p3, FR.rf⟩
/-- what a reading by x comes to, from q with b that may be opened -/
def PRes (t : Int → Int) (n tk f b m q0 : Int) (x : RD) (v : Int) (I R : PF) : Prop := match x with
  | .inl r => v = 1 ∧ FC t n tk f r.1 r.2 b I R ∧ (r.2.length : Int) + m ≤ r.1.1 ∧ q0 ≤ r.1.1
  | .inr fl => v = 0 ∧ DSt t n (.inr fl) I R
def PPost (t : Int → Int) (n tk f b m q0 : Int) (I0 R0 : PF) (x : RD) : PV → PF → PF → Prop := fun v I' R' => PRes t n tk f b m q0 x v.2 I' R' ∧ FR (fF f) I0 I' ∧ FR sR R0 R'
/-- the contract of a reading p by a method -/
def RCon (X : CX) (t : Int → Int) (n tk f b : Int) (d : Nat) (md : MD) (p : (Int × Bool) → List Int → RD) : Prop := ∀ (I R : PF) (q : Int × Bool) (C : List Int) (m : Int), Shp R → FC t n tk f q C b I R → 0 ≤ m → (C.length : Int) + m ≤ q.1 → CN X d md [(2, 71)] I R (PPost t n tk f b m q.1 I R (p q C))
theorem PRes.z {t : Int → Int} {n tk f b m q0 : Int} {x : RD} {v : Int} {I R : PF} (h : PRes t n tk f b m q0 x v I R) (hv : v = 0) : ∃ fl, x = .inr fl ∧ DSt t n (.inr fl) I R := by
  cases x with
  | inl r => have := h.1; omega
  | inr fl => exact ⟨fl, rfl, h.2⟩
theorem PRes.o {t : Int → Int} {n tk f b m q0 : Int} {x : RD} {v : Int} {I R : PF} (h : PRes t n tk f b m q0 x v I R) (hv : v ≠ 0) : ∃ r, x = .inl r ∧ FC t n tk f r.1 r.2 b I R ∧ (r.2.length : Int) + m ≤ r.1.1 ∧ q0 ≤ r.1.1 := by
  cases x with
  | inl r => exact ⟨r, rfl, h.2.1, h.2.2.1, h.2.2.2⟩
  | inr fl => exact absurd h.1 hv
theorem PRes.r {t : Int → Int} {n tk f b m q0 : Int} {x : RD} {v : Int} {I R : PF} (h : PRes t n tk f b m q0 x v I R) : v = 0 ∨ v = 1 := by
  cases x with
  | inl r => exact Or.inr h.1
  | inr fl => exact Or.inl h.1
theorem product_lp {X : CX} {d : Nat} {t : Int → Int} {n tk f b m q0 : Int} {I0 R0 : PF} {K : Nat} {p : (Int × Bool) → List Int → RD} (hp : RCon X t n tk f b d mX3_part p) (hd2 : 1 ≤ d) : ∀ (k : Nat) (q : Int × Bool) (C : List Int) (x1 : Int) (I R : PF), (n - q.1).toNat < k → Shp R → FC t n tk f q C b I R → 0 ≤ m → (C.length : Int) + m ≤ q.1 → q0 ≤ q.1 → 0 ≤ x1 → x1 ≤ q.1 → FR (fF f) I0 I → FR sR R0 R →
    PN X (d + 1) mX3_product 11 [(2, 71), (0, x1)] [] I R (PPost t n tk f b m q0 I0 R0 (loopR t n p 42 3 47 4 k q C))
  | 0, q, C, x1, I, R, h, _, _, _, _, _, _, _, _, _ => absurd h (Nat.not_lt_zero _)
  | k + 1, q, C, x1, I, R, h, hs, hF, hm, hl, hq0, hx0, hx, f0, r0 => by
    have s1 := skp_ge t n q.1
    have q1 := hF.1.1.2.1
    have qn := hF.1.1.2.2.1
    have n1 := hF.1.1.1.2.2.2.1
    have eu : loopR t n p 42 3 47 4 (k + 1) q C = if nxt t n (.inl q) = 42 ∨ nxt t n (.inl q) = 47 then
      (match p (skp t n q.1 + 1, false) C with
      | .inr f => .inr f
      | .inl r => loopR t n p 42 3 47 4 k r.1 ((if nxt t n (.inl q) = 42 then 3 else 4) :: r.2))
      else .inl (q, C) := rfl
    have stop : ¬ (nxt t n (.inl q) = 42 ∨ nxt t n (.inl q) = 47) → PN X (d + 1) mX3_product 92 [] [] I R (PPost t n tk f b m q0 I0 R0 (loopR t n p 42 3 47 4 (k + 1) q C)) := fun c => by
      rw [if_neg c] at eu
      rw [eu]
      exact S_X3_product_92 ⟨⟨rfl, hF, hl, hq0⟩, f0, r0⟩
    refine S_X3_product_11 (by omega) (fun g => stop (fun c => ?_)) (fun gx => ?_)
    · have e := nxt_end (t := t) (n := n) (q := q) (by omega)
      omega
    refine S_X3_product_18 (d1 := 0) hs (by omega) (c_isSign hF.1.1 (c := 42) (by unfold sgn; omega) (by decide)) (fun z I2 R2 q2 => ?_)
    obtain ⟨(hz : z = _), rfl, rfl⟩ := q2
    have br := bi_r (nxt t n (.inl q) = 42)
    have go : (nxt t n (.inl q) = 42 ∨ nxt t n (.inl q) = 47) → PN X (d + 1) mX3_product 42 [(2, 71), (0, x1)] [] I2 R2 (PPost t n tk f b m q0 I0 R0 (loopR t n p 42 3 47 4 (k + 1) q C)) := fun c => by
      rw [if_pos c] at eu
      have hn : skp t n q.1 < n := by
        rcases c with g | g <;> exact lkv_n (t := t) (n := n) (a := skp t n q.1) g (by decide)
      have hb : ∃ c0, nxt t n (.inl q) = c0 ∧ sgn c0 := by
        rcases c with g | g
        · exact ⟨_, g, by unfold sgn; omega⟩
        · exact ⟨_, g, by unfold sgn; omega⟩
      obtain ⟨c0, hc0, hs0⟩ := hb
      have body : ∀ w : Int, w = dc (if nxt t n (.inl q) = 42 then 3 else 4) → PN X (d + 1) mX3_product 61 [(2, 71), (0, x1)] [(0, w)] I2 R2 (PPost t n tk f b m q0 I0 R0 (loopR t n p 42 3 47 4 (k + 1) q C)) := fun w hw => by
        refine S_X3_product_61 (d1 := 1) hs (by omega) (c_advS hs hF.1 hc0 hs0) (fun z I3 R3 p3 => ?_)
        obtain ⟨p1, p2, p3, p4⟩ := p3
        have hF3 := hF.scan p1 p3 p4
        have hs3 := hs.fr (sR_mR p4)
        refine S_X3_product_69 (d1 := d) (by omega) (hp I3 R3 _ C (m + 1) hs3 hF3 (by omega) (by simp only; omega)) (fun z I4 R4 p5 => ?_)
        obtain ⟨p5, p6, p7⟩ := p5
        have hs4 := hs3.fr (sR_mR p7)
        have vr := p5.r
        simp only at p5 vr
        refine S_X3_product_73 (by omega) (fun g => ?_) (fun g => ?_)
        · obtain ⟨r, e1, e2, e3, e4⟩ := p5.o g
          rw [e1] at eu
          simp only at eu e4
          rw [eu]
          have rn := e2.1.1.2.2.1
          refine S_X3_product_78 (d1 := 0) e2.2.1 (by omega) (c_addC hs4 e2 (by omega) hw) e2.2.2.1 (fun z I5 R5 p8 => ?_)
          obtain ⟨p8, p9, rfl⟩ := p8
          refine S_X3_product_86 (product_lp (K := K) hp hd2 k r.1 _ (x1 + 1) I5 R5 (by omega) hs4 p8 hm ?_ (by omega) (by omega) (by omega) (f0.tr ((sF_f p3).tr (p6.tr p9))) (r0.tr (p4.tr p7)))
          simp only [List.length_cons]; omega
        · obtain ⟨fl, e1, e2⟩ := p5.z g
          rw [e1] at eu
          simp only at eu
          rw [eu]
          exact S_X3_product_76 ⟨⟨rfl, e2⟩, f0.tr ((sF_f p3).tr p6), r0.tr (p4.tr p7)⟩
      refine S_X3_product_42 (d1 := 0) hs (by omega) (c_isSign hF.1.1 (c := 42) (by unfold sgn; omega) (by decide)) (fun z I3 R3 q3 => ?_)
      obtain ⟨(hz3 : z = _), rfl, rfl⟩ := q3
      refine S_X3_product_51 (by omega) (fun g => ?_) (fun g => ?_)
      · refine S_X3_product_59 (body _ ?_)
        rw [if_neg (bi_0 (hz3.symm.trans g))]; decide
      · refine S_X3_product_54 (body _ ?_)
        rw [if_pos (bi_1 (by rw [← hz3]; exact g))]; decide
    refine S_X3_product_27 (by omega) (fun g => go (Or.inl (bi_1 (by rw [← hz]; exact g)))) (fun g => ?_)
    have g1 := bi_0 (hz.symm.trans g)
    refine S_X3_product_30 (d1 := 0) hs (by omega) (c_isSign hF.1.1 (c := 47) (by unfold sgn; omega) (by decide)) (fun z I3 R3 q3 => ?_)
    obtain ⟨(hz3 : z = _), rfl, rfl⟩ := q3
    have br2 := bi_r (nxt t n (.inl q) = 47)
    refine S_X3_product_39 (by omega) (fun g => stop (fun c => c.elim g1 (bi_0 (hz3.symm.trans g)))) (fun g => go (Or.inr (bi_1 (by rw [← hz3]; exact g))))
theorem c_product {X : CX} {d : Nat} {t : Int → Int} {n tk f b : Int} {K : Nat} {p : (Int × Bool) → List Int → RD} (hK : n < K) (hp : RCon X t n tk f b d mX3_part p) (hd2 : 1 ≤ d) : RCon X t n tk f b (d + 1) mX3_product (prodR t n K p) := by
  intro I R q C m hs hF hm hl
  refine callee_b (by decide +kernel) (Nat.le_of_ble_eq_true rfl) rfl ?_
  have q1 := hF.1.1.2.1
  have n0 := hF.1.1.1.2.2.1
  refine S_X3_product_0 (d1 := d) (by omega) (hp I R q C m hs hF hm hl) (fun z I2 R2 p5 => ?_)
  obtain ⟨p5, p6, p7⟩ := p5
  have hs2 := hs.fr (sR_mR p7)
  have vr := p5.r
  simp only at p5 vr
  refine S_X3_product_4 (by omega) (fun g => ?_) (fun g => ?_)
  · obtain ⟨r, e1, e2, e3, e4⟩ := p5.o g
    have eu : prodR t n K p q C = loopR t n p 42 3 47 4 K r.1 r.2 := by unfold prodR; rw [e1]
    rw [eu]
    exact S_X3_product_9 (product_lp (K := K) hp hd2 K r.1 r.2 0 I2 R2 (by omega) hs2 e2 hm e3 e4 (Int.le_refl _) (by omega) p6 p7)
  · obtain ⟨fl, e1, e2⟩ := p5.z g
    have eu : prodR t n K p q C = .inr fl := by unfold prodR; rw [e1]
    rw [eu]
    exact S_X3_product_7 ⟨⟨rfl, e2⟩, p6, p7⟩
