/-! ===== the model goes on behind a part ===== -/
def dwU (p : Int → Bool) : List Int → List Int
  | [] => []
  | v :: r => if p v = true then dwU p r else v :: r
def dwC (p : Int → Bool) : List Int → List Int → List Int
  | [], C => C
  | v :: r, C => if p v = true then dwC p r (v :: C) else C
theorem dw_len (p : Int → Bool) : ∀ (L C : List Int), (dwU p L).length + (dwC p L C).length = L.length + C.length
  | [], C => rfl
  | v :: r, C => by
    have := dw_len p r (v :: C)
    unfold dwU dwC
    split
    · rw [this]; simp only [List.length_cons]; omega
    · rfl
theorem dw_oc (p : Int → Bool) : ∀ (L : List Int), oc (dwU p L) ≤ oc L
  | [] => by simp [dwU]
  | v :: r => by
    have := dw_oc p r
    unfold dwU
    split
    · rw [show oc (v :: r) = (if v = 12 ∨ 20 ≤ v then 1 else 0) + oc r from rfl]; split <;> omega
    · exact Int.le_refl _
theorem dtb_len : ∀ (L C : List Int), (dtbU L).length + (dtbC L C).length = L.length + C.length
  | [], C => rfl
  | v :: r, C => by
    have := dtb_len r (v :: C)
    unfold dtbU dtbC
    split
    · rfl
    · rw [this]; simp only [List.length_cons]; omega
theorem dtb_oc : ∀ (L : List Int), oc (dtbU L) ≤ oc L
  | [] => by simp [dtbU]
  | v :: r => by
    have := dtb_oc r
    unfold dtbU
    split
    · exact Int.le_refl _
    · rw [show oc (v :: r) = (if v = 12 ∨ 20 ≤ v then 1 else 0) + oc r from rfl]; split <;> omega
theorem dtb_hd : ∀ (L : List Int), brk L ≠ -1 → dtbU L = brk L :: (dtbU L).tail
  | [], h => absurd rfl h
  | v :: r, h => by
    by_cases c : 20 ≤ v ∧ v ≤ 24
    · have e1 : dtbU (v :: r) = v :: r := if_pos c
      have e2 : brk (v :: r) = v := if_pos c
      rw [e1, e2]; rfl
    · have e1 : dtbU (v :: r) = dtbU r := if_neg c
      have e2 : brk (v :: r) = brk r := if_neg c
      rw [e1, e2]; exact dtb_hd r (by rw [← e2]; exact h)
theorem brk_r : ∀ (L : List Int), brk L = -1 ∨ (20 ≤ brk L ∧ brk L ≤ 24)
  | [] => Or.inl rfl
  | v :: r => by
    by_cases c : 20 ≤ v ∧ v ≤ 24
    · have e2 : brk (v :: r) = v := if_pos c
      rw [e2]; exact Or.inr c
    · have e2 : brk (v :: r) = brk r := if_neg c
      rw [e2]; exact brk_r r
theorem epN_0 : ∀ (L : List Int), 0 ≤ epN L
  | [] => by simp [epN]
  | v :: r => by have := epN_0 r; unfold epN; split <;> omega
def p34 (v : Int) : Bool := decide (v = 3 ∨ v = 4)
def p14 (v : Int) : Bool := decide (1 ≤ v ∧ v ≤ 4)
def BOK (B : List Int) : Prop := ∀ v, v ∈ B → 5 ≤ v
theorem onT_B {x : Int} {B : List Int} (h : BOK B) (hx : x ≤ 4) : ¬ onT x ([] ++ B) := fun c => by
  cases B with
  | nil => exact c
  | cons v r => have := h v List.mem_cons_self; have c : v = x := c; omega
theorem mD_Q {I I' : PF} (g : FR (fun x y => (x = 306 ∧ (y = 104 ∨ y = 106)) ∨ x = 379) I I') : FR mE I I' := g.mono (fun x y c => by unfold mE; omega)
theorem mE_Q {I I' : PF} (g : FR mE I I') : FR mQ I I' := g.mono (fun x y c => by unfold mE at c; unfold mQ; omega)
theorem md_loop {X : CX} {d : Nat} {R : PF} {Q : PV → PF → PF → Prop} {B : List Int} {w : Int} (hs : Shp R) (hd : 3 ≤ d) (hB : BOK B) : ∀ (U C : List Int) (I : PF), KSt I U B C → (∀ I', KSt I' (dwU p34 U) B (dwC p34 U C) → FR mD I I' → PN X d mX11_qGoesOn 185 [(2, 306), (0, w)] [] I' R Q) → PN X d mX11_qGoesOn 162 [(2, 306), (0, w)] [] I R Q := by
  intro U
  induction U with
  | nil =>
    intro C I h hQ
    refine S_X11_qGoesOn_162 (d1 := 0) (by omega) (c_qIsOn hs h (by decide)) (fun z I2 R2 q => ?_)
    obtain ⟨(hz : z = _), rfl, rfl⟩ := q
    have e := bi_f (onT_B (x := 3) hB (by decide))
    refine S_X11_qGoesOn_167 (by omega) (fun g => absurd (hz.trans e) g) (fun _ => ?_)
    refine S_X11_qGoesOn_170 (d1 := 0) (by omega) (c_qIsOn hs h (by decide)) (fun z2 I3 R3 q => ?_)
    obtain ⟨(hz2 : z2 = _), rfl, rfl⟩ := q
    have e2 := bi_f (onT_B (x := 4) hB (by decide))
    refine S_X11_qGoesOn_175 (by omega) (fun _ => ?_) (fun g => absurd (hz2.trans e2) g)
    exact hQ I3 h FR.rf
  | cons v U ih =>
    intro C I h hQ
    have drop : p34 v = true → ∀ R2, R2 = R → PN X d mX11_qGoesOn 178 [(2, 306), (0, w)] [] I R2 Q := fun hp R2 hR => by
      subst hR
      refine S_X11_qGoesOn_178 (d1 := 2) (by omega) (c_qDrops hs h) (fun z3 I3 R3 q => ?_)
      obtain ⟨q1, q2, rfl⟩ := q
      have e1 : dwU p34 (v :: U) = dwU p34 U := if_pos hp
      have e2 : dwC p34 (v :: U) C = dwC p34 U (v :: C) := if_pos hp
      rw [e1, e2] at hQ
      exact S_X11_qGoesOn_182 (ih (v :: C) I3 q1 (fun I' k f => hQ I' k ((q2 : FR mD I I3).tr f)))
    refine S_X11_qGoesOn_162 (d1 := 0) (by omega) (c_qIsOn hs h (by decide)) (fun z I2 R2 q => ?_)
    obtain ⟨(hz : z = _), rfl, rfl⟩ := q
    have hb := bi_r (onT 3 (v :: U ++ B))
    refine S_X11_qGoesOn_167 (by omega) (fun g => ?_) (fun g => ?_)
    · have c : v = 3 := bi_1 (fun c => g (hz.trans c))
      exact drop (by rw [c]; decide) _ rfl
    have c3 : ¬ v = 3 := bi_0 (hz.symm.trans g)
    refine S_X11_qGoesOn_170 (d1 := 0) (by omega) (c_qIsOn hs h (by decide)) (fun z2 I3 R3 q => ?_)
    obtain ⟨(hz2 : z2 = _), rfl, rfl⟩ := q
    have hb := bi_r (onT 4 (v :: U ++ B))
    refine S_X11_qGoesOn_175 (by omega) (fun g => ?_) (fun g => ?_)
    rotate_left
    · have c : v = 4 := bi_1 (fun c => g (hz2.trans c))
      exact drop (by rw [c]; decide) _ rfl
    have c4 : ¬ v = 4 := bi_0 (hz2.symm.trans g)
    have hp : ¬ p34 v = true := fun c => by have := of_decide_eq_true c; omega
    have e1 : dwU p34 (v :: U) = v :: U := if_neg hp
    have e2 : dwC p34 (v :: U) C = C := if_neg hp
    rw [e1, e2] at hQ
    exact hQ I3 h FR.rf
theorem ad_loop {X : CX} {d : Nat} {R : PF} {Q : PV → PF → PF → Prop} {B : List Int} {w : Int} (hs : Shp R) (hd : 3 ≤ d) (hB : BOK B) : ∀ (U C : List Int) (I : PF), KSt I U B C → (∀ I', KSt I' (dwU p14 U) B (dwC p14 U C) → FR mD I I' → PN X d mX11_qGoesOn 286 [(2, 306), (0, w)] [] I' R Q) → PN X d mX11_qGoesOn 247 [(2, 306), (0, w)] [] I R Q := by
  intro U
  induction U with
  | nil =>
    intro C I h hQ
    refine S_X11_qGoesOn_247 (d1 := 0) (by omega) (c_qIsOn hs h (by decide)) (fun z I2 R2 q => ?_)
    obtain ⟨(hz : z = _), rfl, rfl⟩ := q
    refine S_X11_qGoesOn_252 (by have := bi_r (onT 3 ([] ++ B)); omega) (fun g => absurd (hz.trans (bi_f (onT_B (x := 3) hB (by decide)))) g) (fun _ => ?_)
    refine S_X11_qGoesOn_255 (d1 := 0) (by omega) (c_qIsOn hs h (by decide)) (fun z I2 R2 q => ?_)
    obtain ⟨(hz : z = _), rfl, rfl⟩ := q
    refine S_X11_qGoesOn_260 (by have := bi_r (onT 4 ([] ++ B)); omega) (fun g => absurd (hz.trans (bi_f (onT_B (x := 4) hB (by decide)))) g) (fun _ => ?_)
    refine S_X11_qGoesOn_263 (d1 := 0) (by omega) (c_qIsOn hs h (by decide)) (fun z I2 R2 q => ?_)
    obtain ⟨(hz : z = _), rfl, rfl⟩ := q
    refine S_X11_qGoesOn_268 (by have := bi_r (onT 1 ([] ++ B)); omega) (fun g => absurd (hz.trans (bi_f (onT_B (x := 1) hB (by decide)))) g) (fun _ => ?_)
    refine S_X11_qGoesOn_271 (d1 := 0) (by omega) (c_qIsOn hs h (by decide)) (fun z I2 R2 q => ?_)
    obtain ⟨(hz : z = _), rfl, rfl⟩ := q
    refine S_X11_qGoesOn_276 (by have := bi_r (onT 2 ([] ++ B)); omega) (fun _ => ?_) (fun g => absurd (hz.trans (bi_f (onT_B (x := 2) hB (by decide)))) g)
    exact hQ I2 h FR.rf
  | cons v U ih =>
    intro C I h hQ
    have drop : p14 v = true → ∀ R2, R2 = R → PN X d mX11_qGoesOn 279 [(2, 306), (0, w)] [] I R2 Q := fun hp R2 hR => by
      subst hR
      refine S_X11_qGoesOn_279 (d1 := 2) (by omega) (c_qDrops hs h) (fun z3 I3 R3 q => ?_)
      obtain ⟨q1, q2, rfl⟩ := q
      have e1 : dwU p14 (v :: U) = dwU p14 U := if_pos hp
      have e2 : dwC p14 (v :: U) C = dwC p14 U (v :: C) := if_pos hp
      rw [e1, e2] at hQ
      exact S_X11_qGoesOn_283 (ih (v :: C) I3 q1 (fun I' k f => hQ I' k ((q2 : FR mD I I3).tr f)))
    refine S_X11_qGoesOn_247 (d1 := 0) (by omega) (c_qIsOn hs h (by decide)) (fun z I2 R2 q => ?_)
    obtain ⟨(hz : z = _), rfl, rfl⟩ := q
    refine S_X11_qGoesOn_252 (by have := bi_r (onT 3 (v :: U ++ B)); omega) (fun g => ?_) (fun g => ?_)
    · have c : v = 3 := bi_1 (fun c => g (hz.trans c))
      exact drop (by rw [c]; decide) _ rfl
    have c3 : ¬ v = 3 := bi_0 (hz.symm.trans g)
    refine S_X11_qGoesOn_255 (d1 := 0) (by omega) (c_qIsOn hs h (by decide)) (fun z I2 R2 q => ?_)
    obtain ⟨(hz : z = _), rfl, rfl⟩ := q
    refine S_X11_qGoesOn_260 (by have := bi_r (onT 4 (v :: U ++ B)); omega) (fun g => ?_) (fun g => ?_)
    · have c : v = 4 := bi_1 (fun c => g (hz.trans c))
      exact drop (by rw [c]; decide) _ rfl
    have c4 : ¬ v = 4 := bi_0 (hz.symm.trans g)
    refine S_X11_qGoesOn_263 (d1 := 0) (by omega) (c_qIsOn hs h (by decide)) (fun z I2 R2 q => ?_)
    obtain ⟨(hz : z = _), rfl, rfl⟩ := q
    refine S_X11_qGoesOn_268 (by have := bi_r (onT 1 (v :: U ++ B)); omega) (fun g => ?_) (fun g => ?_)
    · have c : v = 1 := bi_1 (fun c => g (hz.trans c))
      exact drop (by rw [c]; decide) _ rfl
    have c1 : ¬ v = 1 := bi_0 (hz.symm.trans g)
    refine S_X11_qGoesOn_271 (d1 := 0) (by omega) (c_qIsOn hs h (by decide)) (fun z I2 R2 q => ?_)
    obtain ⟨(hz : z = _), rfl, rfl⟩ := q
    refine S_X11_qGoesOn_276 (by have := bi_r (onT 2 (v :: U ++ B)); omega) (fun g => ?_) (fun g => ?_)
    rotate_left
    · have c : v = 2 := bi_1 (fun c => g (hz.trans c))
      exact drop (by rw [c]; decide) _ rfl
    have c2 : ¬ v = 2 := bi_0 (hz.symm.trans g)
    have hp : ¬ p14 v = true := fun c => by have := of_decide_eq_true c; omega
    have e1 : dwU p14 (v :: U) = v :: U := if_neg hp
    have e2 : dwC p14 (v :: U) C = C := if_neg hp
    rw [e1, e2] at hQ
    exact hQ I2 h FR.rf
/-- closing brackets -/
def clsY (t : Int → Int) (n : Int) : Nat → Y4 → Y4
  | 0, y => y
  | k + 1, y => if nxt t n (.inl y.1) = 41 ∧ (brk y.2.1 = 20 ∨ brk y.2.1 = 23 ∨ brk y.2.1 = 24) then
      clsY t n k ((skp t n y.1.1 + 1, false), epU (dtbU y.2.1).tail, epC (dtbU y.2.1).tail (if brk y.2.1 = 20 then dtbC y.2.1 y.2.2.1 else (if brk y.2.1 = 23 then 5 else 6) :: dtbC y.2.1 y.2.2.1), y.2.2.2 - 1 - epN (dtbU y.2.1).tail)
    else y
theorem cls_loop {X : CX} {d : Nat} {R : PF} {Q : PV → PF → PF → Prop} {t : Int → Int} {n tk : Int} {B : List Int} (hs : Shp R) (hd : 4 ≤ d) : ∀ (k : Nat) (y : Y4) (I : PF), (n - y.1.1).toNat < k → YSt t n tk B y I →
    (∀ I', YSt t n tk B (clsY t n k y) I' → FR mY I I' → PN X d mX11_qGoesOn 122 [(2, 306)] [] I' R Q) → PN X d mX11_qGoesOn 0 [(2, 306)] [] I R Q := by
  intro k
  induction k with
  | zero => intro y I h; exact absurd h (Nat.not_lt_zero _)
  | succ k ih =>
    intro y I hk h hQ
    obtain ⟨q, U, C, o⟩ := y
    have h' := h
    obtain ⟨m1, k1, o1, t1, t2, c1, c2, l1, w1⟩ := h'
    simp only at m1 k1 o1 c1 c2 l1 hk
    have mle := m1.le
    refine S_X11_qGoesOn_0 (by rw [m1.ok]; decide) (fun g => absurd m1.ok g) (fun _ => ?_)
    refine S_X11_qGoesOn_7 (d1 := 1) (by omega) (c_look2 hs m1) (fun z I2 R2 qq => ?_)
    obtain ⟨(q1 : z = _), q2, q3, q4, rfl⟩ := qq
    have hr : -1 ≤ nxt t n (.inl q) ∧ nxt t n (.inl q) ≤ 255 := lkv_r m1.1 (by omega)
    have k2 := k1.rd q4
    have hbr := brk_r U
    have y2 : YSt t n tk B (q, U, C, o) I2 := ⟨q2, k2, (rd107 q4).trans o1, (mY56 q4.rdY).trans t1, t2, c1, c2, l1, w1.rd q4⟩
    have stop : ¬ (nxt t n (.inl q) = 41 ∧ (brk U = 20 ∨ brk U = 23 ∨ brk U = 24)) → PN X d mX11_qGoesOn 122 [(2, 306)] [] I2 R2 Q := fun hn => by
      have e : clsY t n (k + 1) (q, U, C, o) = (q, U, C, o) := if_neg hn
      rw [e] at hQ
      exact hQ I2 y2 q4.rdY
    refine S_X11_qGoesOn_11 (by omega) (fun g => ?_) (fun g => ?_)
    · exact stop (fun c => g (q1.trans c.1))
    have g : nxt t n (.inl q) = 41 := q1.symm.trans g
    have hn := lkv_n (t := t) (n := n) (a := skp t n q.1) g (by decide)
    have go : (brk U = 20 ∨ brk U = 23 ∨ brk U = 24) → PN X d mX11_qGoesOn 43 [(2, 306)] [] I2 R2 Q := fun hb => by
      have e : clsY t n (k + 1) (q, U, C, o) = clsY t n k ((skp t n q.1 + 1, false), epU (dtbU U).tail, epC (dtbU U).tail (if brk U = 20 then dtbC U C else (if brk U = 23 then 5 else 6) :: dtbC U C), o - 1 - epN (dtbU U).tail) := if_pos ⟨g, hb⟩
      rw [e] at hQ
      have hd2 := dtb_hd U (by omega)
      have hl2 := dtb_len U C
      have ho2 := dtb_oc U
      have f3 : FR mRd I2 (u2 I2 306 2 (I2 306 2 + 1)) := FR_u2 ⟨rfl, Or.inl rfl⟩
      refine S_X11_qGoesOn_43 (d1 := 3) (by omega) (c_qDropsToBracket hs (k2.rd f3)) (fun z4 I4 R4 qq => ?_)
      obtain ⟨v1, v2, rfl⟩ := qq
      have m4 : MSt t n (.inl (skp t n q.1 + 1, false)) I4 := MSt.q (q2.signed q3 hn (q2.e4 q3)) (v2.mono (fun x y c => by unfold mD at c; unfold mQ; omega))
      have f4 : FR mY I I4 := (q4.tr f3).rdY.tr (v2.mono (fun x y c => Or.inr (by unfold mD at c; unfold mQ; omega)))
      have o4 : I4 306 107 = o := by rw [v2 306 107 (fun c => by unfold mD at c; omega), rd107 f3, rd107 q4]; exact o1
      rw [hd2] at v1 hl2 ho2
      have hw4 := v1.w
      have hle4 := v1.le
      simp only [List.length_cons] at hw4 hle4 hl2
      have hoc : oc (brk U :: (dtbU U).tail) = 1 + oc (dtbU U).tail := by show (if _ then _ else _) + _ = _; rw [if_pos (by omega)]
      generalize hT : (dtbU U).tail = T at *
      have f5 : FR (fun x y => x = 306 ∧ (y = 106 ∨ y = 107)) I4 (u2 (u2 I4 306 106 (I4 306 106 - 1)) 306 107 ((u2 I4 306 106 (I4 306 106 - 1)) 306 107 - 1)) := (FR_u2 ⟨rfl, Or.inl rfl⟩).tr (FR_u2 ⟨rfl, Or.inr rfl⟩)
      have e106 : (u2 (u2 I4 306 106 (I4 306 106 - 1)) 306 107 ((u2 I4 306 106 (I4 306 106 - 1)) 306 107 - 1)) 306 106 = I4 306 106 - 1 := (u2_j (show (106 : Int) ≠ 107 by decide)).trans u2_at
      have e107 : (u2 (u2 I4 306 106 (I4 306 106 - 1)) 306 107 ((u2 I4 306 106 (I4 306 106 - 1)) 306 107 - 1)) 306 107 = o - 1 := by rw [u2_at, u2_j (show (107 : Int) ≠ 106 by decide), o4]
      have e380 : (u2 (u2 I4 306 106 (I4 306 106 - 1)) 306 107 ((u2 I4 306 106 (I4 306 106 - 1)) 306 107 - 1)) 380 (I4 306 106 - 1) = brk U := (f5 380 _ (fun c => by omega)).trans v1.1.1
      generalize hJ : (u2 (u2 I4 306 106 (I4 306 106 - 1)) 306 107 ((u2 I4 306 106 (I4 306 106 - 1)) 306 107 - 1)) = J at *
      have kJ : KSt J T B (dtbC U C) := by
        refine ⟨?_, ?_, ?_, by rw [List.length_append]; omega, fun w hw => v1.2.2.2.2 w (mem_app hw)⟩
        · rw [e106]; exact (v1.1.2).fr (fun i _ _ => f5 380 i (fun c => by omega))
        · rw [f5 306 104 (fun c => by omega)]; exact v1.2.1.fr (fun i _ _ => f5 379 i (fun c => by omega))
        · rw [f5 306 108 (fun c => by omega)]; exact v1.2.2.1
      have mJ : MSt t n (.inl (skp t n q.1 + 1, false)) J := m4.q (f5.mono (fun x y c => by unfold mQ; omega))
      have fJ : FR mY I J := f4.tr (f5.mono (fun x y c => Or.inr (by unfold mQ; omega)))
      have fin : ∀ (C2 : List Int) (J2 : PF), C2 = (if brk U = 20 then dtbC U C else (if brk U = 23 then 5 else 6) :: dtbC U C) → KSt J2 T B C2 → MSt t n (.inl (skp t n q.1 + 1, false)) J2 → J2 306 107 = o - 1 → FR mY I J2 → PN X d mX11_qGoesOn 115 [(2, 306)] [] J2 R4 Q := fun C2 J2 hC2 k6 m6 o6 f6 => by
        refine S_X11_qGoesOn_115 (d1 := 3) (by omega) (c_qEndsPart hs k6 m6.ok) (fun z7 I7 R7 qq => ?_)
        obtain ⟨x1, x2, x3, rfl⟩ := qq
        have f7 := f6.tr x3.eY
        have hC3 : (C2.length : Int) ≤ (dtbC U C).length + 1 := by rw [hC2]; split <;> (try simp only [List.length_cons]) <;> omega
        have a1 := oc_ep T
        have a2 := oc_app T B
        have a3 := oc_app (epU T) B
        have a4 := ep_len T C2
        have a5 := epN_0 T
        have a6 := oc_app U B
        rw [← hC2] at hQ
        refine S_X11_qGoesOn_119 (ih _ I7 (by simp only; omega) ⟨m6.q (mE_Q x3), x1, by rw [x2, o6], (mY56 f7).trans t1, t2, ?_, ?_, ?_, w1.y f7⟩ (fun I' yy ff => hQ I' yy (f7.tr ff)))
        · simp only; omega
        · simp only; omega
        · simp only; omega
      refine S_X11_qGoesOn_57 hs (by rw [hJ, e106]; omega) (by rw [hJ, e106, e380]; exact ⟨by omega, by omega⟩) (fun g5 => ?_) (fun g5 => ?_)
      · rw [hJ]
        rw [hJ, e106, e380] at g5
        exact fin _ J (if_pos g5).symm kJ mJ e107 fJ
      · rw [hJ]
        rw [hJ, e106, e380] at g5
        have code : ∀ v, v = (if brk U = 23 then (5 : Int) else 6) → PN X d mX11_qGoesOn 112 [(2, 306)] [(0, v), (2, 306)] J R4 Q := fun v hv => by
          refine S_X11_qGoesOn_112 (d1 := 1) (by omega) (c_qCode hs kJ (by omega)) (fun z7 I7 R7 qq => ?_)
          obtain ⟨x1, x2, rfl⟩ := qq
          have x3 : FR mQ J I7 := x2.mono (fun x y c => by unfold mQ; omega)
          exact fin _ I7 (by rw [if_neg g5, ← hv]) x1 (mJ.q x3) ((x2 306 107 (fun c => by omega)).trans e107) (fJ.tr x3.qY)
        refine S_X11_qGoesOn_91 hs (by rw [e106]; omega) (by rw [e106, e380]; exact ⟨by omega, by omega⟩) (fun g6 => ?_) (fun g6 => ?_)
        · rw [e106, e380] at g6
          exact S_X11_qGoesOn_110 (code 6 (if_neg g6).symm)
        · rw [e106, e380] at g6
          exact S_X11_qGoesOn_106 (code 5 (if_pos g6).symm)
    refine S_X11_qGoesOn_16 (d1 := 2) (by omega) (c_qBracket hs k2) (fun z3 I3 R3 qq => ?_)
    obtain ⟨(b1 : z3 = _), rfl, rfl⟩ := qq
    refine S_X11_qGoesOn_20 (by omega) (fun g1 => go (Or.inl (b1.symm.trans g1))) (fun g1 => ?_)
    refine S_X11_qGoesOn_25 (d1 := 2) (by omega) (c_qBracket hs k2) (fun z4 I4 R4 qq => ?_)
    obtain ⟨(b2 : z4 = _), rfl, rfl⟩ := qq
    refine S_X11_qGoesOn_29 (by omega) (fun g2 => go (Or.inr (Or.inl (b2.symm.trans g2)))) (fun g2 => ?_)
    refine S_X11_qGoesOn_34 (d1 := 2) (by omega) (c_qBracket hs k2) (fun z5 I5 R5 qq => ?_)
    obtain ⟨(b3 : z5 = _), rfl, rfl⟩ := qq
    refine S_X11_qGoesOn_38 (by omega) (fun g3 => stop (fun c => by omega)) (fun g3 => go (Or.inr (Or.inr (b3.symm.trans g3))))
/-- on behind a part: a joining sign, a comma, or none -/
def nxtY (t : Int → Int) (n : Int) (y : Y4) : (Bool × Y4) ⊕ (Int × Int) :=
  if nxt t n (.inl y.1) = 42 ∨ nxt t n (.inl y.1) = 47 then .inl (true, (skp t n y.1.1 + 1, false), (if nxt t n (.inl y.1) = 42 then 3 else 4) :: dwU p34 y.2.1, dwC p34 y.2.1 y.2.2.1, y.2.2.2)
  else if nxt t n (.inl y.1) = 43 ∨ nxt t n (.inl y.1) = 45 then .inl (true, (skp t n y.1.1 + 1, false), (if nxt t n (.inl y.1) = 43 then 1 else 2) :: dwU p14 y.2.1, dwC p14 y.2.1 y.2.2.1, y.2.2.2)
  else if brk y.2.1 = 21 ∨ brk y.2.1 = 22 then (if nxt t n (.inl y.1) = 44 then .inl (true, (skp t n y.1.1 + 1, false), (brk y.2.1 + 2) :: (dtbU y.2.1).tail, dtbC y.2.1 y.2.2.1, y.2.2.2) else .inr (1, skp t n y.1.1))
  else if brk y.2.1 ≠ -1 then .inr (1, skp t n y.1.1) else .inl (false, y)
def goesY (t : Int → Int) (n : Int) (k : Nat) (y : Y4) : (Bool × Y4) ⊕ (Int × Int) := nxtY t n (clsY t n k y)
def GRes (t : Int → Int) (n tk m : Int) (B : List Int) (r : (Bool × Y4) ⊕ (Int × Int)) (v : Int) (I : PF) : Prop := match r with
  | .inl y => v = (if y.1 = true then 1 else 0) ∧ YSt t n tk B y.2 I
  | .inr f => v = 0 ∧ YBd t n tk m B f I
theorem c_qGoesOn {X : CX} {I R : PF} {t : Int → Int} {n tk : Int} {B : List Int} {y : Y4} {k : Nat} (hs : Shp R) (hk : (n - y.1.1).toNat < k) (hB : BOK B) (h : YSt t n tk B y I) :
    CN X 4 mX11_qGoesOn [(2, 306)] I R (fun v I' R' => GRes t n tk 0 B (goesY t n k y) v.2 I' ∧ FR mY I I' ∧ R' = R) := by
  refine callee_b (by decide +kernel) (Nat.le_of_ble_eq_true rfl) rfl ?_
  refine cls_loop hs (by omega) k y I hk h (fun I1 y1 f1 => ?_)
  have eg : goesY t n k y = nxtY t n (clsY t n k y) := rfl
  rw [eg]
  generalize clsY t n k y = yc at *
  clear eg
  obtain ⟨q, U, C, o⟩ := yc
  have y1' := y1
  obtain ⟨m1, k1, o1, t1, t2, c1, c2, l1, w1⟩ := y1'
  simp only at m1 k1 o1 c1 c2 l1
  have mle := m1.le
  have hbr := brk_r U
  have hr : -1 ≤ nxt t n (.inl q) ∧ nxt t n (.inl q) ≤ 255 := lkv_r m1.1 (by omega)
  have hap := oc_app U B
  have eD : nxtY t n (q, U, C, o) = (if nxt t n (.inl q) = 42 ∨ nxt t n (.inl q) = 47 then .inl (true, (skp t n q.1 + 1, false), (if nxt t n (.inl q) = 42 then 3 else 4) :: dwU p34 U, dwC p34 U C, o)
    else if nxt t n (.inl q) = 43 ∨ nxt t n (.inl q) = 45 then .inl (true, (skp t n q.1 + 1, false), (if nxt t n (.inl q) = 43 then 1 else 2) :: dwU p14 U, dwC p14 U C, o)
    else if brk U = 21 ∨ brk U = 22 then (if nxt t n (.inl q) = 44 then .inl (true, (skp t n q.1 + 1, false), (brk U + 2) :: (dtbU U).tail, dtbC U C, o) else .inr (1, skp t n q.1))
    else if brk U ≠ -1 then .inr (1, skp t n q.1) else .inl (false, q, U, C, o)) := rfl
  -- a sign that joins is taken
  have join : ∀ (p : Int → Bool) (w : Int) (I2 I3 : PF), FR mY I I2 → MSt t n (.inl (skp t n q.1 + 1, false)) I2 → I2 306 107 = o → skp t n q.1 < n → KSt I3 (dwU p U) B (dwC p U C) → FR mD I2 I3 → (1 ≤ w ∧ w ≤ 4) →
      GRes t n tk 0 B (.inl (true, (skp t n q.1 + 1, false), w :: dwU p U, dwC p U C, o)) 1 (u2 (u2 I3 380 (I3 306 106) w) 306 106 ((u2 I3 380 (I3 306 106) w) 306 106 + 1)) ∧ FR mY I (u2 (u2 I3 380 (I3 306 106) w) 306 106 ((u2 I3 380 (I3 306 106) w) 306 106 + 1)) := fun p w I2 I3 f2 m2 o2 hn k3 f3 hw => by
    have g1 : FR (fun x y => x = 380 ∧ y = I3 306 106) I3 (u2 I3 380 (I3 306 106) w) := FR_u2 ⟨rfl, rfl⟩
    have e1 : (u2 I3 380 (I3 306 106) w) 306 106 = I3 306 106 := g1 _ _ (fun c => by omega)
    rw [e1]
    have g2 : FR (fun x y => x = 306 ∧ y = 106) (u2 I3 380 (I3 306 106) w) (u2 (u2 I3 380 (I3 306 106) w) 306 106 (I3 306 106 + 1)) := FR_u2 ⟨rfl, rfl⟩
    have gq : FR mQ I3 (u2 (u2 I3 380 (I3 306 106) w) 306 106 (I3 306 106 + 1)) := (g1.mono (fun x y c => by unfold mQ; omega)).tr (g2.mono (fun x y c => by unfold mQ; omega))
    have f4 : FR mY I (u2 (u2 I3 380 (I3 306 106) w) 306 106 (I3 306 106 + 1)) := (f2.tr (f3.mono (fun x y c => Or.inr (by unfold mD at c; unfold mQ; omega)))).tr gq.qY
    have hl := dw_len p U C
    have ho := dw_oc p U
    have ha := oc_app (dwU p U) B
    have hw3 := k3.w
    have hl3 := k3.le
    refine ⟨⟨rfl, (m2.q (f3.mono (fun x y c => by unfold mD at c; unfold mQ; omega))).q gq, ⟨?_, ?_, ?_, ?_, ?_⟩, ?_, (mY56 f4).trans (by rw [h.2.2.2.1]), t2, ?_, c2, ?_, h.2.2.2.2.2.2.2.2.y f4⟩, f4⟩
    · rw [u2_at]; exact (k3.1.push).fr (fun i _ _ => g2 380 i (fun c => by omega))
    · rw [g2 306 104 (fun c => by omega), g1 306 104 (fun c => by omega)]
      exact k3.2.1.fr (fun i _ _ => (g2 379 i (fun c => by omega)).trans (g1 379 i (fun c => by omega)))
    · rw [g2 306 108 (fun c => by omega), g1 306 108 (fun c => by omega)]; exact k3.2.2.1
    · simp only [List.cons_append, List.length_cons, List.length_append]; omega
    · intro v hv
      rcases List.mem_cons.mp hv with e | hv
      · rw [e]; exact ⟨by omega, by omega⟩
      · exact k3.2.2.2.2 v hv
    · rw [g2 306 107 (fun c => by omega), g1 306 107 (fun c => by omega), f3 306 107 (fun c => by unfold mD at c; omega)]; exact o2
    · simp only [List.cons_append, oc]; rw [if_neg (by omega)]; omega
    · simp only [List.length_cons]; omega
  have fail1 : ∀ (I2 : PF), MSt t n (.inl q) I2 → I2 306 2 = skp t n q.1 → KSt I2 U B C → FR mY I I2 → YBd t n tk 0 B (1, skp t n q.1) (u2 (u2 I2 306 5 1) 306 6 (I2 306 2)) ∧ FR mY I (u2 (u2 I2 306 5 1) 306 6 (I2 306 2)) := fun I2 m2 a2 k2 f2 => by
    have g : FR mRd I2 (u2 (u2 I2 306 5 1) 306 6 (I2 306 2)) := (FR_u2 ⟨rfl, by decide⟩).tr (FR_u2 ⟨rfl, by decide⟩)
    have f3 := f2.tr g.rdY
    exact ⟨⟨m2.fail a2 (by decide) (by decide), ⟨U, C, k2.rd g, by omega⟩, (mY56 f3).trans h.2.2.2.1, h.2.2.2.2.2.2.2.2.y f3⟩, f3⟩
  have key140 : ∀ (I2 R2 : PF), R2 = R → FR mY I I2 → (nxt t n (.inl q) = 42 ∨ nxt t n (.inl q) = 47) → MSt t n (.inl (skp t n q.1 + 1, false)) I2 → I2 306 2 = skp t n q.1 + 1 → KSt I2 U B C → I2 306 107 = o → PN X 4 mX11_qGoesOn 140 [(2, 306)] [] I2 R2 (fun v I' R' => GRes t n tk 0 B (nxtY t n (q, U, C, o)) v.2 I' ∧ FR mY I I' ∧ R' = R) := fun I2 R2 hR f2 hc m2 a2 k2 o2 => by
    subst hR
    have hn : skp t n q.1 < n := hc.elim (fun c => lkv_n c (by decide)) (fun c => lkv_n c (by decide))
    have hv : lkv t n (skp t n q.1) = t (skp t n q.1) := if_pos hn
    have hv2 : nxt t n (.inl q) = t (skp t n q.1) := hv
    have e7 : I2 307 (I2 306 2 - 1) = t (skp t n q.1) := by rw [m2.1.1, a2]; congr 1; omega
    rw [eD, if_pos hc]
    refine S_X11_qGoesOn_140 hs (by omega) (by omega) (fun g => ?_) (fun g => ?_)
    · rw [if_neg (by omega)]
      refine S_X11_qGoesOn_160 (S_X11_qGoesOn_161 ?_)
      refine md_loop hs (by omega) hB U C I2 k2 (fun I3 k3 f3 => ?_)
      have hw3 := k3.w
      have hl3 := k3.le
      have j := join p34 4 I2 I3 f2 m2 o2 hn k3 f3 (by decide)
      exact S_X11_qGoesOn_185 hs (by omega) ⟨j.1, j.2, rfl⟩
    · rw [if_pos (by omega)]
      refine S_X11_qGoesOn_156 (S_X11_qGoesOn_161 ?_)
      refine md_loop hs (by omega) hB U C I2 k2 (fun I3 k3 f3 => ?_)
      have hw3 := k3.w
      have hl3 := k3.le
      have j := join p34 3 I2 I3 f2 m2 o2 hn k3 f3 (by decide)
      exact S_X11_qGoesOn_185 hs (by omega) ⟨j.1, j.2, rfl⟩
  have key225 : ∀ (I2 R2 : PF), R2 = R → FR mY I I2 → ¬ (nxt t n (.inl q) = 42 ∨ nxt t n (.inl q) = 47) → (nxt t n (.inl q) = 43 ∨ nxt t n (.inl q) = 45) → MSt t n (.inl (skp t n q.1 + 1, false)) I2 → I2 306 2 = skp t n q.1 + 1 → KSt I2 U B C → I2 306 107 = o → PN X 4 mX11_qGoesOn 225 [(2, 306)] [] I2 R2 (fun v I' R' => GRes t n tk 0 B (nxtY t n (q, U, C, o)) v.2 I' ∧ FR mY I I' ∧ R' = R) := fun I2 R2 hR f2 h0 hc m2 a2 k2 o2 => by
    subst hR
    have hn : skp t n q.1 < n := hc.elim (fun c => lkv_n c (by decide)) (fun c => lkv_n c (by decide))
    have hv : lkv t n (skp t n q.1) = t (skp t n q.1) := if_pos hn
    have hv2 : nxt t n (.inl q) = t (skp t n q.1) := hv
    have e7 : I2 307 (I2 306 2 - 1) = t (skp t n q.1) := by rw [m2.1.1, a2]; congr 1; omega
    rw [eD, if_neg h0, if_pos hc]
    refine S_X11_qGoesOn_225 hs (by omega) (by omega) (fun g => ?_) (fun g => ?_)
    · rw [if_neg (by omega)]
      refine S_X11_qGoesOn_245 (S_X11_qGoesOn_246 ?_)
      refine ad_loop hs (by omega) hB U C I2 k2 (fun I3 k3 f3 => ?_)
      have hw3 := k3.w
      have hl3 := k3.le
      have j := join p14 2 I2 I3 f2 m2 o2 hn k3 f3 (by decide)
      exact S_X11_qGoesOn_286 hs (by omega) ⟨j.1, j.2, rfl⟩
    · rw [if_pos (by omega)]
      refine S_X11_qGoesOn_241 (S_X11_qGoesOn_246 ?_)
      refine ad_loop hs (by omega) hB U C I2 k2 (fun I3 k3 f3 => ?_)
      have hw3 := k3.w
      have hl3 := k3.le
      have j := join p14 1 I2 I3 f2 m2 o2 hn k3 f3 (by decide)
      exact S_X11_qGoesOn_286 hs (by omega) ⟨j.1, j.2, rfl⟩
  -- the four signs, one after the other
  have sign : ∀ (c : Int), 0 ≤ c ∧ c < 256 → ∀ (v : PV) (J J' : PF), MSt t n (.inl q) J → (v.2 = bi (nxt t n (.inl q) = c) ∧ MSt t n (takS t n c (.inl q)) J' ∧ J' 306 2 = skp t n q.1 + v.2) → (nxt t n (.inl q) = c ∧ v.2 ≠ 0 ∧ MSt t n (.inl (skp t n q.1 + 1, false)) J' ∧ J' 306 2 = skp t n q.1 + 1) ∨ (nxt t n (.inl q) ≠ c ∧ v.2 = 0 ∧ MSt t n (.inl q) J' ∧ J' 306 2 = skp t n q.1) := fun c _ v J J' mJ hp => by
    obtain ⟨p1, p2, p3⟩ := hp
    by_cases e : nxt t n (.inl q) = c
    · left
      have : takS t n c (.inl q) = .inl (skp t n q.1 + 1, false) := if_pos e
      rw [this] at p2
      rw [bi_t e] at p1
      exact ⟨e, by omega, p2, by omega⟩
    · right
      have : takS t n c (.inl q) = .inl q := if_neg e
      rw [this] at p2
      rw [bi_f e] at p1
      exact ⟨e, p1, p2, by omega⟩
  refine S_X11_qGoesOn_122 (d1 := 2) (by omega) (c_takesSign hs m1 (by decide)) (fun z2 I2 R2 qq => ?_)
  obtain ⟨s1, s2, s3, rfl, s5⟩ := qq
  have b2 := bi_r (nxt t n (.inl q) = 42)
  rcases sign 42 (by decide) (0, z2) I1 I2 m1 ⟨s1, s2, s5 q rfl⟩ with ⟨a1, a2, a3, a4⟩ | ⟨a1, a2, a3, a4⟩
  · refine S_X11_qGoesOn_128 (by omega) (fun _ => ?_) (fun g => absurd g a2)
    exact key140 I2 R2 rfl (f1.tr s3.rdY) (Or.inl a1) a3 a4 (k1.rd s3) ((rd107 s3).trans o1)
  refine S_X11_qGoesOn_128 (by omega) (fun g => absurd a2 g) (fun _ => ?_)
  have g2 := f1.tr s3.rdY
  have k2 := k1.rd s3
  have o2 := (rd107 s3).trans o1
  clear s1 s2 s5
  refine S_X11_qGoesOn_131 (d1 := 2) (by omega) (c_takesSign hs a3 (by decide)) (fun z3 I3 R3 qq => ?_)
  obtain ⟨s1, s2, s3', rfl, s5⟩ := qq
  have b3 := bi_r (nxt t n (.inl q) = 47)
  rcases sign 47 (by decide) (0, z3) I2 I3 a3 ⟨s1, s2, s5 q rfl⟩ with ⟨e1, e2, e3, e4⟩ | ⟨e1, e2, e3, e4⟩
  · refine S_X11_qGoesOn_137 (by omega) (fun g => absurd g e2) (fun _ => ?_)
    exact key140 I3 R3 rfl (g2.tr s3'.rdY) (Or.inr e1) e3 e4 (k2.rd s3') ((rd107 s3').trans o2)
  refine S_X11_qGoesOn_137 (by omega) (fun _ => ?_) (fun g => absurd e2 g)
  have g3 := g2.tr s3'.rdY
  have k3 := k2.rd s3'
  have o3 := (rd107 s3').trans o2
  clear s1 s2 s5
  have no1 : ¬ (nxt t n (.inl q) = 42 ∨ nxt t n (.inl q) = 47) := fun c => c.elim a1 e1
  refine S_X11_qGoesOn_207 (d1 := 2) (by omega) (c_takesSign hs e3 (by decide)) (fun z4 I4 R4 qq => ?_)
  obtain ⟨s1, s2, s4', rfl, s5⟩ := qq
  have b4 := bi_r (nxt t n (.inl q) = 43)
  rcases sign 43 (by decide) (0, z4) I3 I4 e3 ⟨s1, s2, s5 q rfl⟩ with ⟨h1, h2, h3, h4⟩ | ⟨h1, h2, h3, h4⟩
  · refine S_X11_qGoesOn_213 (by omega) (fun _ => ?_) (fun g => absurd g h2)
    exact key225 I4 R4 rfl (g3.tr s4'.rdY) no1 (Or.inl h1) h3 h4 (k3.rd s4') ((rd107 s4').trans o3)
  refine S_X11_qGoesOn_213 (by omega) (fun g => absurd h2 g) (fun _ => ?_)
  have g4 := g3.tr s4'.rdY
  have k4 := k3.rd s4'
  have o4 := (rd107 s4').trans o3
  clear s1 s2 s5
  refine S_X11_qGoesOn_216 (d1 := 2) (by omega) (c_takesSign hs h3 (by decide)) (fun z5 I5 R5 qq => ?_)
  obtain ⟨s1, s2, s5', rfl, s5⟩ := qq
  have b5 := bi_r (nxt t n (.inl q) = 45)
  rcases sign 45 (by decide) (0, z5) I4 I5 h3 ⟨s1, s2, s5 q rfl⟩ with ⟨j1, j2, j3, j4⟩ | ⟨j1, j2, j3, j4⟩
  · refine S_X11_qGoesOn_222 (by omega) (fun g => absurd g j2) (fun _ => ?_)
    exact key225 I5 R5 rfl (g4.tr s5'.rdY) no1 (Or.inr j1) j3 j4 (k4.rd s5') ((rd107 s5').trans o4)
  refine S_X11_qGoesOn_222 (by omega) (fun _ => ?_) (fun g => absurd j2 g)
  have g5 := g4.tr s5'.rdY
  have k5 := k4.rd s5'
  have o5 := (rd107 s5').trans o4
  clear s1 s2 s5
  have no2 : ¬ (nxt t n (.inl q) = 43 ∨ nxt t n (.inl q) = 45) := fun c => c.elim h1 j1
  rw [eD, if_neg no1, if_neg no2]
  have w5 := h.2.2.2.2.2.2.2.2.y g5
  have t5 : I5 306 56 = tk := (mY56 g5).trans h.2.2.2.1
  have comma : (brk U = 21 ∨ brk U = 22) → PN X 4 mX11_qGoesOn 326 [(2, 306)] [] I5 R5 (fun v I' R' => GRes t n tk 0 B (if brk U = 21 ∨ brk U = 22 then (if nxt t n (.inl q) = 44 then .inl (true, (skp t n q.1 + 1, false), (brk U + 2) :: (dtbU U).tail, dtbC U C, o) else .inr (1, skp t n q.1)) else if brk U ≠ -1 then .inr (1, skp t n q.1) else .inl (false, q, U, C, o)) v.2 I' ∧ FR mY I I' ∧ R' = R5) := fun hc => by
    rw [if_pos hc]
    refine S_X11_qGoesOn_326 (d1 := 3) (by omega) (c_asksSign hs j3 (by decide)) (fun z6 I6 R6 qq => ?_)
    obtain ⟨v1, v2, rfl⟩ := qq
    have g6 := g5.tr v2.rdY
    have k6 := k5.rd v2
    by_cases e : nxt t n (.inl q) = 44
    · have ea : askS t n 44 (.inl q) = .inl (skp t n q.1 + 1, false) := if_pos e
      have hn := lkv_n (t := t) (n := n) (a := skp t n q.1) e (by decide)
      rw [ea] at v1
      rw [if_pos e]
      refine S_X11_qGoesOn_332 (by rw [v1.ok]; decide) (fun _ => ?_) (fun g => absurd v1.ok g)
      refine S_X11_qGoesOn_341 (d1 := 3) (by omega) (c_qDropsToBracket hs k6) (fun z7 I7 R7 qq => ?_)
      obtain ⟨x1, x2, rfl⟩ := qq
      have x2q : FR mQ I6 I7 := x2.mono (fun x y c => by unfold mD at c; unfold mQ; omega)
      have hd2 := dtb_hd U (by omega)
      have hl2 := dtb_len U C
      have ho2 := dtb_oc U
      rw [hd2] at x1 hl2 ho2
      have hoc : oc (brk U :: (dtbU U).tail) = 1 + oc (dtbU U).tail := by show (if _ then _ else _) + _ = _; rw [if_pos (by omega)]
      have hoc2 : oc ((brk U + 2) :: (dtbU U).tail) = 1 + oc (dtbU U).tail := by show (if _ then _ else _) + _ = _; rw [if_pos (by omega)]
      generalize hT : (dtbU U).tail = T at *
      have hw7 := x1.w
      have hl7 := x1.le
      simp only [List.length_cons] at hw7 hl7 hl2
      have e7 : I7 380 (I7 306 106 - 1) = brk U := x1.1.1
      have f8 : FR (fun x y => x = 380 ∧ y = I7 306 106 - 1) I7 (u2 I7 380 (I7 306 106 - 1) (I7 380 (I7 306 106 - 1) + 2)) := FR_u2 ⟨rfl, rfl⟩
      have g8 : FR mY I (u2 I7 380 (I7 306 106 - 1) (I7 380 (I7 306 106 - 1) + 2)) := (g6.tr x2q.qY).tr (f8.mono (fun x y c => Or.inr (by unfold mQ; omega)))
      have a9 := oc_app ((brk U + 2) :: T) B
      refine S_X11_qGoesOn_345 hs (by omega) ⟨⟨rfl, (v1.q x2q).q (f8.mono (fun x y c => by unfold mQ; omega)), ⟨?_, ?_, ?_, ?_, ?_⟩, ?_, (mY56 g8).trans h.2.2.2.1, t2, ?_, c2, ?_, h.2.2.2.2.2.2.2.2.y g8⟩, g8, rfl⟩
      · rw [f8 306 106 (fun c => by omega)]
        refine ⟨by rw [u2_at, e7], ?_⟩
        exact (x1.1.2).fr (fun i i0 i1 => f8 380 i (fun c => by omega))
      · rw [f8 306 104 (fun c => by omega)]; exact x1.2.1.fr (fun i _ _ => f8 379 i (fun c => by omega))
      · rw [f8 306 108 (fun c => by omega)]; exact x1.2.2.1
      · simp only [List.cons_append, List.length_cons, List.length_append]; omega
      · intro v hv
        rcases List.mem_cons.mp hv with e | hv
        · rw [e]; exact ⟨by omega, by omega⟩
        · exact x1.2.2.2.2 v (List.mem_cons_of_mem _ hv)
      · rw [f8 306 107 (fun c => by omega), x2 306 107 (fun c => by unfold mD at c; omega), rd107 v2]; exact o5
      · simp only; omega
      · simp only [List.length_cons]; omega
    · have ea : askS t n 44 (.inl q) = .inr (1, skp t n q.1) := if_neg e
      rw [ea] at v1
      rw [if_neg e]
      refine S_X11_qGoesOn_332 v1.r5 (fun g => absurd g v1.bad) (fun _ => ?_)
      exact S_X11_qGoesOn_339 ⟨⟨rfl, v1, ⟨U, C, k6, by omega⟩, (mY56 g6).trans h.2.2.2.1, h.2.2.2.2.2.2.2.2.y g6⟩, g6, rfl⟩
  refine S_X11_qGoesOn_308 (d1 := 2) (by omega) (c_qBracket hs k5) (fun z6 I6 R6 qq => ?_)
  obtain ⟨(b6 : z6 = _), rfl, rfl⟩ := qq
  refine S_X11_qGoesOn_312 (by omega) (fun g => comma (Or.inl (b6.symm.trans g))) (fun g21 => ?_)
  refine S_X11_qGoesOn_317 (d1 := 2) (by omega) (c_qBracket hs k5) (fun z7 I7 R7 qq => ?_)
  obtain ⟨(b7 : z7 = _), rfl, rfl⟩ := qq
  refine S_X11_qGoesOn_321 (by omega) (fun g22 => ?_) (fun g => comma (Or.inr (b7.symm.trans g)))
  rw [if_neg (fun c => by omega)]
  refine S_X11_qGoesOn_362 (d1 := 2) (by omega) (c_qBracket hs k5) (fun z8 I8 R8 qq => ?_)
  obtain ⟨(b8 : z8 = _), rfl, rfl⟩ := qq
  refine S_X11_qGoesOn_366 (by omega) (fun g => ?_) (fun g => ?_)
  · rw [if_neg (fun c => by omega)]
    exact S_X11_qGoesOn_386 ⟨⟨rfl, j3, k5, o5, t5, t2, c1, c2, l1, w5⟩, g5, rfl⟩
  · rw [if_pos (by omega)]
    refine S_X11_qGoesOn_370 (by rw [j3.ok]; decide) (fun g => absurd j3.ok g) (fun _ => ?_)
    refine S_X11_qGoesOn_377 (d1 := 1) (by omega) (c_fail j3.r5) (fun z9 I9 R9 qq => ?_)
    obtain ⟨q6, rfl⟩ := qq
    rw [if_pos j3.ok] at q6
    subst q6
    have ff := fail1 _ j3 j4 k5 g5
    exact S_X11_qGoesOn_386 ⟨⟨rfl, ff.1⟩, ff.2, rfl⟩
