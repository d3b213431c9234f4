/-! ===== the model goes on behind a fact ===== -/
def p25 (v : Int) : Bool := decide (v ≠ 25)
def p10 (v : Int) : Bool := decide (v = 10)
def p1011 (v : Int) : Bool := decide (v = 10 ∨ v = 11)
theorem dw_sub (p : Int → Bool) : ∀ (L : List Int) (v : Int), v ∈ dwU p L → v ∈ L
  | [], v, h => h
  | w :: r, v, h => by
    unfold dwU at h
    split at h
    · exact List.mem_cons_of_mem _ (dw_sub p r v h)
    · exact h
theorem dn_sub : ∀ (L : List Int) (v : Int), v ∈ dnU L → v ∈ L
  | [], v, h => h
  | w :: r, v, h => by
    unfold dnU at h
    split at h
    · exact List.mem_cons_of_mem _ (dn_sub r v h)
    · exact h
theorem dn_len : ∀ (L C : List Int), (dnU L).length + (dnC L C).length = L.length + C.length
  | [], C => rfl
  | v :: r, C => by
    have := dn_len r (v :: C)
    unfold dnU dnC
    split
    · rw [this]; simp only [List.length_cons]; omega
    · rfl
theorem dnN_0 : ∀ (L : List Int), 0 ≤ dnN L
  | [] => by simp [dnN]
  | v :: r => by have := dnN_0 r; unfold dnN; split <;> omega
theorem oc_dn : ∀ (L : List Int), oc (dnU L) = oc L - dnN L
  | [] => by simp [oc, dnU, dnN]
  | v :: r => by
    have := oc_dn r
    unfold dnU dnN
    split
    · rw [this]; rw [show oc (v :: r) = (if v = 12 ∨ 20 ≤ v then 1 else 0) + oc r from rfl, if_pos (by omega)]; omega
    · omega
theorem sq_hd : ∀ (L : List Int), 25 ∈ L → dwU p25 L = 25 :: (dwU p25 L).tail
  | [], h => absurd h List.not_mem_nil
  | v :: r, h => by
    by_cases c : v = 25
    · have e1 : dwU p25 (v :: r) = v :: r := if_neg (fun k => absurd c (of_decide_eq_true k : v ≠ 25))
      rw [e1, c]; rfl
    · have e1 : dwU p25 (v :: r) = dwU p25 r := if_pos (decide_eq_true c)
      rw [e1]
      exact sq_hd r ((List.mem_cons.mp h).resolve_left (fun k => c k.symm))
theorem sqd_loop {X : CX} {d : Nat} {R : PF} {Q : PV → PF → PF → Prop} (hs : Shp R) (hd : 3 ≤ d) : ∀ (U C : List Int) (I : PF), 25 ∈ U → KSt I U [] C → (∀ I', KSt I' (dwU p25 U) [] (dwC p25 U C) → FR mD I I' → PN X d mX11_qGoesOnTest 49 [(2, 306)] [] I' R Q) → PN X d mX11_qGoesOnTest 33 [(2, 306)] [] I R Q := by
  intro U
  induction U with
  | nil => intro C I h; exact absurd h List.not_mem_nil
  | cons v U ih =>
    intro C I hm h hQ
    refine S_X11_qGoesOnTest_33 (d1 := 0) (by omega) (c_qIsOn hs h (by decide)) (fun z I2 R2 q => ?_)
    obtain ⟨(hz : z = _), rfl, rfl⟩ := q
    refine S_X11_qGoesOnTest_39 (by have := bi_r (onT 25 (v :: U ++ [])); omega) (fun g => ?_) (fun g => ?_)
    · have c : v = 25 := bi_1 (fun c => g (hz.trans c))
      have hp : ¬ p25 v = true := fun k => absurd c (of_decide_eq_true k : v ≠ 25)
      have e1 : dwU p25 (v :: U) = v :: U := if_neg hp
      have e2 : dwC p25 (v :: U) C = C := if_neg hp
      rw [e1, e2] at hQ
      exact hQ I2 h FR.rf
    · have c : ¬ v = 25 := bi_0 (hz.symm.trans g)
      have hp : p25 v = true := decide_eq_true c
      have e1 : dwU p25 (v :: U) = dwU p25 U := if_pos hp
      have e2 : dwC p25 (v :: U) C = dwC p25 U (v :: C) := if_pos hp
      rw [e1, e2] at hQ
      refine S_X11_qGoesOnTest_42 (d1 := 2) (by omega) (c_qDrops hs h) (fun z3 I3 R3 q => ?_)
      obtain ⟨q1, q2, rfl⟩ := q
      exact S_X11_qGoesOnTest_46 (ih (v :: C) I3 ((List.mem_cons.mp hm).resolve_left (fun k => c k.symm)) q1 (fun I' k f => hQ I' k ((q2 : FR mD I2 I3).tr f)))
theorem an_loop {X : CX} {d : Nat} {R : PF} {Q : PV → PF → PF → Prop} (hs : Shp R) (hd : 3 ≤ d) : ∀ (U C : List Int) (I : PF), KSt I U [] C → (∀ I', KSt I' (dwU p10 U) [] (dwC p10 U C) → FR mD I I' → PN X d mX11_qGoesOnTest 103 [(2, 306)] [] I' R Q) → PN X d mX11_qGoesOnTest 87 [(2, 306)] [] I R Q := by
  intro U
  induction U with
  | nil =>
    intro C I h hQ
    refine S_X11_qGoesOnTest_87 (d1 := 0) (by omega) (c_qIsOn hs h (by decide)) (fun z I2 R2 q => ?_)
    obtain ⟨(hz : z = _), rfl, rfl⟩ := q
    exact S_X11_qGoesOnTest_93 (by have := bi_r (onT 10 ([] ++ [])); omega) (fun _ => hQ I2 h FR.rf) (fun g => absurd (hz.trans (bi_f (fun c => c))) g)
  | cons v U ih =>
    intro C I h hQ
    refine S_X11_qGoesOnTest_87 (d1 := 0) (by omega) (c_qIsOn hs h (by decide)) (fun z I2 R2 q => ?_)
    obtain ⟨(hz : z = _), rfl, rfl⟩ := q
    refine S_X11_qGoesOnTest_93 (by have := bi_r (onT 10 (v :: U ++ [])); omega) (fun g => ?_) (fun g => ?_)
    · have c : ¬ v = 10 := bi_0 (hz.symm.trans g)
      have hp : ¬ p10 v = true := fun k => c (of_decide_eq_true k)
      have e1 : dwU p10 (v :: U) = v :: U := if_neg hp
      have e2 : dwC p10 (v :: U) C = C := if_neg hp
      rw [e1, e2] at hQ
      exact hQ I2 h FR.rf
    · have c : v = 10 := bi_1 (fun c => g (hz.trans c))
      have hp : p10 v = true := decide_eq_true c
      have e1 : dwU p10 (v :: U) = dwU p10 U := if_pos hp
      have e2 : dwC p10 (v :: U) C = dwC p10 U (v :: C) := if_pos hp
      rw [e1, e2] at hQ
      refine S_X11_qGoesOnTest_96 (d1 := 2) (by omega) (c_qDrops hs h) (fun z3 I3 R3 q => ?_)
      obtain ⟨q1, q2, rfl⟩ := q
      exact S_X11_qGoesOnTest_100 (ih (v :: C) I3 q1 (fun I' k f => hQ I' k ((q2 : FR mD I2 I3).tr f)))
theorem or_loop {X : CX} {d : Nat} {R : PF} {Q : PV → PF → PF → Prop} (hs : Shp R) (hd : 3 ≤ d) : ∀ (U C : List Int) (I : PF), KSt I U [] C → (∀ I', KSt I' (dwU p1011 U) [] (dwC p1011 U C) → FR mD I I' → PN X d mX11_qGoesOnTest 162 [(2, 306)] [] I' R Q) → PN X d mX11_qGoesOnTest 137 [(2, 306)] [] I R Q := by
  intro U
  induction U with
  | nil =>
    intro C I h hQ
    refine S_X11_qGoesOnTest_137 (d1 := 0) (by omega) (c_qIsOn hs h (by decide)) (fun z I2 R2 q => ?_)
    obtain ⟨(hz : z = _), rfl, rfl⟩ := q
    refine S_X11_qGoesOnTest_143 (by have := bi_r (onT 10 ([] ++ [])); omega) (fun g => absurd (hz.trans (bi_f (fun c => c))) g) (fun _ => ?_)
    refine S_X11_qGoesOnTest_146 (d1 := 0) (by omega) (c_qIsOn hs h (by decide)) (fun z I2 R2 q => ?_)
    obtain ⟨(hz : z = _), rfl, rfl⟩ := q
    exact S_X11_qGoesOnTest_152 (by have := bi_r (onT 11 ([] ++ [])); omega) (fun _ => hQ I2 h FR.rf) (fun g => absurd (hz.trans (bi_f (fun c => c))) g)
  | cons v U ih =>
    intro C I h hQ
    have drop : p1011 v = true → ∀ R2, R2 = R → PN X d mX11_qGoesOnTest 155 [(2, 306)] [] I R2 Q := fun hp R2 hR => by
      subst hR
      refine S_X11_qGoesOnTest_155 (d1 := 2) (by omega) (c_qDrops hs h) (fun z3 I3 R3 q => ?_)
      obtain ⟨q1, q2, rfl⟩ := q
      have e1 : dwU p1011 (v :: U) = dwU p1011 U := if_pos hp
      have e2 : dwC p1011 (v :: U) C = dwC p1011 U (v :: C) := if_pos hp
      rw [e1, e2] at hQ
      exact S_X11_qGoesOnTest_159 (ih (v :: C) I3 q1 (fun I' k f => hQ I' k ((q2 : FR mD I I3).tr f)))
    refine S_X11_qGoesOnTest_137 (d1 := 0) (by omega) (c_qIsOn hs h (by decide)) (fun z I2 R2 q => ?_)
    obtain ⟨(hz : z = _), rfl, rfl⟩ := q
    refine S_X11_qGoesOnTest_143 (by have := bi_r (onT 10 (v :: U ++ [])); omega) (fun g => ?_) (fun g => ?_)
    · have c : v = 10 := bi_1 (fun c => g (hz.trans c))
      exact drop (decide_eq_true (Or.inl c)) _ rfl
    have c10 : ¬ v = 10 := bi_0 (hz.symm.trans g)
    refine S_X11_qGoesOnTest_146 (d1 := 0) (by omega) (c_qIsOn hs h (by decide)) (fun z I2 R2 q => ?_)
    obtain ⟨(hz : z = _), rfl, rfl⟩ := q
    refine S_X11_qGoesOnTest_152 (by have := bi_r (onT 11 (v :: U ++ [])); omega) (fun g => ?_) (fun g => ?_)
    rotate_left
    · have c : v = 11 := bi_1 (fun c => g (hz.trans c))
      exact drop (decide_eq_true (Or.inr c)) _ rfl
    have c11 : ¬ v = 11 := bi_0 (hz.symm.trans g)
    have hp : ¬ p1011 v = true := fun k => (of_decide_eq_true k).elim c10 c11
    have e1 : dwU p1011 (v :: U) = v :: U := if_neg hp
    have e2 : dwC p1011 (v :: U) C = C := if_neg hp
    rw [e1, e2] at hQ
    exact hQ I2 h FR.rf
/-- closing square brackets -/
def clsT (t : Int → Int) (n : Int) : Nat → Y4 → Y4
  | 0, y => y
  | k + 1, y => if nxt t n (.inl y.1) = 93 ∧ 25 ∈ y.2.1 then
      clsT t n k ((skp t n y.1.1 + 1, false), dnU (dwU p25 y.2.1).tail, dnC (dwU p25 y.2.1).tail (dwC p25 y.2.1 y.2.2.1), y.2.2.2 - 1 - dnN (dwU p25 y.2.1).tail)
    else y
theorem BOK.sub {L K : List Int} (h : BOK L) (g : ∀ v, v ∈ K → v ∈ L) : BOK K := fun v hv => h v (g v hv)
theorem clsT_loop {X : CX} {d : Nat} {R : PF} {Q : PV → PF → PF → Prop} {t : Int → Int} {n tk : Int} (hs : Shp R) (hd : 4 ≤ d) : ∀ (k : Nat) (y : Y4) (I : PF), (n - y.1.1).toNat < k → BOK y.2.1 → YSt t n tk [] y I →
    (∀ I', YSt t n tk [] (clsT t n k y) I' → BOK (clsT t n k y).2.1 → FR mY I I' → PN X d mX11_qGoesOnTest 76 [(2, 306)] [] I' R Q) → PN X d mX11_qGoesOnTest 0 [(2, 306)] [] I R Q := by
  intro k
  induction k with
  | zero => intro y I h; exact absurd h (Nat.not_lt_zero _)
  | succ k ih =>
    intro y I hk hB h hQ
    obtain ⟨q, U, C, o⟩ := y
    have h' := h
    obtain ⟨m1, k1, o1, t1, t2, c1, c2, l1, w1⟩ := h'
    simp only at m1 k1 o1 c1 c2 l1 hk hB
    have mle := m1.le
    refine S_X11_qGoesOnTest_0 (by rw [m1.ok]; decide) (fun g => absurd m1.ok g) (fun _ => ?_)
    refine S_X11_qGoesOnTest_7 (d1 := 1) (by omega) (c_look2 hs m1) (fun z I2 R2 qq => ?_)
    obtain ⟨(q1 : z = _), q2, q3, q4, rfl⟩ := qq
    have hr : -1 ≤ nxt t n (.inl q) ∧ nxt t n (.inl q) ≤ 255 := lkv_r m1.1 (by omega)
    have k2 := k1.rd q4
    have y2 : YSt t n tk [] (q, U, C, o) I2 := ⟨q2, k2, (rd107 q4).trans o1, (mY56 q4.rdY).trans t1, t2, c1, c2, l1, w1.rd q4⟩
    have stop : ¬ (nxt t n (.inl q) = 93 ∧ 25 ∈ U) → ∀ R3, R3 = R2 → PN X d mX11_qGoesOnTest 76 [(2, 306)] [] I2 R3 Q := fun hn R3 hR => by
      subst hR
      have e : clsT t n (k + 1) (q, U, C, o) = (q, U, C, o) := if_neg hn
      rw [e] at hQ
      exact hQ I2 y2 hB q4.rdY
    refine S_X11_qGoesOnTest_11 (by omega) (fun g => ?_) (fun g => ?_)
    · exact stop (fun c => g (q1.trans c.1)) _ rfl
    have g : nxt t n (.inl q) = 93 := q1.symm.trans g
    have hn := lkv_n (t := t) (n := n) (a := skp t n q.1) g (by decide)
    refine S_X11_qGoesOnTest_16 (d1 := 0) (by omega) (c_qHasSquare hs k2) (fun z3 I3 R3 qq => ?_)
    obtain ⟨(b1 : z3 = _), rfl, rfl⟩ := qq
    rw [List.append_nil] at b1
    refine S_X11_qGoesOnTest_20 (by have := bi_r (25 ∈ U); omega) (fun g1 => ?_) (fun g1 => ?_)
    · exact stop (fun c => bi_0 (b1.symm.trans g1) c.2) _ rfl
    have hm := bi_1 (fun c => g1 (b1.trans c))
    have e : clsT t n (k + 1) (q, U, C, o) = clsT t n k ((skp t n q.1 + 1, false), dnU (dwU p25 U).tail, dnC (dwU p25 U).tail (dwC p25 U C), o - 1 - dnN (dwU p25 U).tail) := if_pos ⟨g, hm⟩
    rw [e] at hQ
    have hd2 := sq_hd U hm
    have hl2 := dw_len p25 U C
    have ho2 := dw_oc p25 U
    have hsub := dw_sub p25 U
    have f3 : FR mRd I3 (u2 I3 306 2 (I3 306 2 + 1)) := FR_u2 ⟨rfl, Or.inl rfl⟩
    refine S_X11_qGoesOnTest_23 (sqd_loop hs (by omega) U C _ hm (k2.rd f3) (fun I4 v1 v2 => ?_))
    have m4 : MSt t n (.inl (skp t n q.1 + 1, false)) I4 := MSt.q (q2.signed q3 hn (q2.e4 q3)) (v2.mono (fun x y c => by unfold mD at c; unfold mQ; omega))
    have f4 : FR mY I I4 := (q4.tr f3).rdY.tr (v2.mono (fun x y c => Or.inr (by unfold mD at c; unfold mQ; omega)))
    have o4 : I4 306 107 = o := by rw [v2 306 107 (fun c => by unfold mD at c; omega), rd107 f3, rd107 q4]; exact o1
    rw [hd2] at v1 hl2 ho2 hsub
    have hoc : oc (25 :: (dwU p25 U).tail) = 1 + oc (dwU p25 U).tail := by show (if _ then _ else _) + _ = _; rw [if_pos (by decide)]
    generalize hT : (dwU p25 U).tail = T at *
    have hw4 := v1.w
    have hle4 := v1.le
    simp only [List.length_cons] at hw4 hle4 hl2
    have f5 : FR (fun x y => x = 306 ∧ (y = 106 ∨ y = 107)) I4 (u2 (u2 I4 306 106 (I4 306 106 - 1)) 306 107 ((u2 I4 306 106 (I4 306 106 - 1)) 306 107 - 1)) := (FR_u2 ⟨rfl, Or.inl rfl⟩).tr (FR_u2 ⟨rfl, Or.inr rfl⟩)
    have e106 : (u2 (u2 I4 306 106 (I4 306 106 - 1)) 306 107 ((u2 I4 306 106 (I4 306 106 - 1)) 306 107 - 1)) 306 106 = I4 306 106 - 1 := (u2_j (show (106 : Int) ≠ 107 by decide)).trans u2_at
    have e107 : (u2 (u2 I4 306 106 (I4 306 106 - 1)) 306 107 ((u2 I4 306 106 (I4 306 106 - 1)) 306 107 - 1)) 306 107 = o - 1 := by rw [u2_at, u2_j (show (107 : Int) ≠ 106 by decide), o4]
    have kJ : KSt (u2 (u2 I4 306 106 (I4 306 106 - 1)) 306 107 ((u2 I4 306 106 (I4 306 106 - 1)) 306 107 - 1)) T [] (dwC p25 U C) := by
      refine ⟨?_, ?_, ?_, by rw [List.length_append]; simp only [List.length_nil] at hle4 ⊢; omega, fun w hw => v1.2.2.2.2 w (mem_app hw)⟩
      · rw [e106]; exact (v1.1.2).fr (fun i _ _ => f5 380 i (fun c => by omega))
      · rw [f5 306 104 (fun c => by omega)]; exact v1.2.1.fr (fun i _ _ => f5 379 i (fun c => by omega))
      · rw [f5 306 108 (fun c => by omega)]; exact v1.2.2.1
    have mJ := m4.q (f5.mono (fun x y c => by unfold mQ; omega))
    have fJ := f4.tr (f5.mono (fun x y c => Or.inr (by unfold mQ; omega)))
    refine S_X11_qGoesOnTest_49 (d1 := 3) (by omega) (c_qDropsNots hs kJ mJ.ok) (fun z7 I7 R7 qq => ?_)
    obtain ⟨x1, x2, x3, rfl⟩ := qq
    have f7 := fJ.tr x3.eY
    have a1 := oc_dn T
    have a4 := dn_len T (dwC p25 U C)
    have a5 := dnN_0 T
    rw [List.append_nil] at c1
    refine S_X11_qGoesOnTest_73 (ih _ I7 (by simp only; omega) (hB.sub (fun v hv => hsub v (List.mem_cons_of_mem _ (dn_sub T v hv)))) ⟨mJ.q (mE_Q x3), x1, by rw [x2, e107], (mY56 f7).trans t1, t2, ?_, ?_, ?_, w1.y f7⟩ (fun I' yy bb ff => hQ I' yy bb (f7.tr ff)))
    · simp only [List.append_nil]; omega
    · simp only; omega
    · simp only [List.length_nil] at l1 ⊢; omega
