/-! ===== the waiting signs and the codes of a formula, the model's ===== -/
def Stk (I : PF) (a : Int) : List Int → Int → Prop
  | [], k => k = 0
  | v :: r, k => I a (k - 1) = v ∧ Stk I a r (k - 1)
theorem Stk.len {I : PF} {a : Int} : ∀ {L : List Int} {k : Int}, Stk I a L k → k = L.length
  | [], k, h => h
  | v :: r, k, h => by have := Stk.len h.2; simp only [List.length_cons]; omega
theorem Stk.fr {I I' : PF} {a : Int} : ∀ {L : List Int} {k : Int}, Stk I a L k → (∀ i, 0 ≤ i → i < k → I' a i = I a i) → Stk I' a L k
  | [], k, h, _ => h
  | v :: r, k, h, g => by
    have := Stk.len h.2
    exact ⟨by rw [g (k - 1) (by omega) (by omega)]; exact h.1, Stk.fr h.2 (fun i i0 i1 => g i i0 (by omega))⟩
theorem Stk.push {I : PF} {a v : Int} {L : List Int} {k : Int} (h : Stk I a L k) : Stk (u2 I a k v) a (v :: L) (k + 1) := by
  have e : k + 1 - 1 = k := by omega
  refine ⟨by rw [e]; exact u2_at, ?_⟩
  rw [e]
  exact h.fr (fun i i0 i1 => u2_j (by omega))
theorem Stk.row {I I' : PF} {a : Int} {L : List Int} {k : Int} (h : Stk I a L k) (g : I' a = I a) : Stk I' a L k := h.fr (fun i _ _ => by rw [g])
/-- the cells that hold the waiting signs and the codes -/
def mQ (x y : Int) : Prop := (x = 306 ∧ (y = 104 ∨ y = 106 ∨ y = 107 ∨ y = 108)) ∨ x = 379 ∨ x = 380
def KSt (I : PF) (U B C : List Int) : Prop := Stk I 380 (U ++ B) (I 306 106) ∧ Stk I 379 C (I 306 104) ∧ I 306 108 = B.length ∧ ((U ++ B).length + C.length : Int) ≤ 1650 ∧ (∀ v, v ∈ U ++ B → inR v)
theorem KSt.w {I : PF} {U B C : List Int} (h : KSt I U B C) : I 306 106 = U.length + B.length := by have := h.1.len; rw [this, List.length_append]; omega
theorem KSt.c {I : PF} {U B C : List Int} (h : KSt I U B C) : I 306 104 = C.length := h.2.1.len
theorem KSt.le {I : PF} {U B C : List Int} (h : KSt I U B C) : (U.length + B.length + C.length : Int) ≤ 1650 := by have := h.2.2.2.1; rw [List.length_append] at this; omega
theorem KSt.fr {I I' : PF} {U B C : List Int} {P : Int → Int → Prop} (h : KSt I U B C) (g : FR P I I') (d : ∀ x y, P x y → ¬ (x = 379 ∨ x = 380 ∨ (x = 306 ∧ (y = 104 ∨ y = 106 ∨ y = 108)))) : KSt I' U B C := by
  obtain ⟨h1, h2, h3, h4, h5⟩ := h
  have e : ∀ x y, (x = 379 ∨ x = 380 ∨ (x = 306 ∧ (y = 104 ∨ y = 106 ∨ y = 108))) → I' x y = I x y := fun x y c => g x y (fun k => d x y k c)
  refine ⟨?_, ?_, ?_, h4, h5⟩
  · rw [e 306 106 (by omega)]; exact h1.fr (fun i _ _ => e 380 i (by omega))
  · rw [e 306 104 (by omega)]; exact h2.fr (fun i _ _ => e 379 i (by omega))
  · rw [e 306 108 (by omega)]; exact h3
theorem KSt.rd {I I' : PF} {U B C : List Int} (h : KSt I U B C) (g : FR mRd I I') : KSt I' U B C := h.fr g (fun x y c => by unfold mRd at c; omega)
theorem MSt.fr {t : Int → Int} {n : Int} {s : SA} {I I' : PF} {P : Int → Int → Prop} (h : MSt t n s I) (g : FR P I I') (d : ∀ x y, P x y → ¬ (x = 307 ∨ (x = 306 ∧ 2 ≤ y ∧ y ≤ 6))) : MSt t n s I' := by
  have e : ∀ x y, (x = 307 ∨ (x = 306 ∧ 2 ≤ y ∧ y ≤ 6)) → I' x y = I x y := fun x y c => g x y (fun k => d x y k c)
  obtain ⟨⟨p1, p2, p3, p4, p5, p6, p7, p8, p9⟩, h1⟩ := h
  refine ⟨⟨?_, ?_, p3, p4, p5, ?_, ?_, ?_, ?_⟩, ?_⟩
  · funext i; rw [e 307 i (by omega), p1]
  · rw [e 306 3 (by omega)]; exact p2
  · rw [e 306 2 (by omega)]; exact p6
  · rw [e 306 2 (by omega)]; exact p7
  · rw [e 306 4 (by omega)]; exact p8
  · rw [e 306 5 (by omega), e 306 6 (by omega)]; exact p9
  · rw [e 306 5 (by omega), e 306 2 (by omega), e 306 4 (by omega), e 306 6 (by omega)]; exact h1
theorem MSt.q {t : Int → Int} {n : Int} {s : SA} {I I' : PF} (h : MSt t n s I) (g : FR mQ I I') : MSt t n s I' := h.fr g (fun x y c => by unfold mQ at c; omega)
theorem CW.q {I I' : PF} (h : CW I) (g : FR mQ I I') : CW I' := h.rows (fun a ha => funext fun i => g a i (fun c => by unfold mQ at c; omega))
theorem mem_app {v w : Int} {U B : List Int} (h : v ∈ U ++ B) : v ∈ (w :: U) ++ B := List.mem_cons_of_mem _ h
theorem c_qCode {X : CX} {I R : PF} {v : Int} {U B C : List Int} (hs : Shp R) (h : KSt I U B C) (hl : (U.length + B.length + C.length : Int) < 1650) :
    CN X 1 mX11_qCode [(2, 306), (0, v)] I R (fun _ I' R' => KSt I' U B (v :: C) ∧ FR (fun x y => (x = 306 ∧ y = 104) ∨ x = 379) I I' ∧ R' = R) := by
  refine callee_b (by decide +kernel) (Nat.le_of_ble_eq_true rfl) rfl ?_
  have hc := h.c
  have hl2 := h.le
  have f1 : FR (fun x y => x = 379 ∧ y = I 306 104) I (u2 I 379 (I 306 104) v) := FR_u2 ⟨rfl, rfl⟩
  have f2 : FR (fun x y => x = 306 ∧ y = 104) (u2 I 379 (I 306 104) v) (u2 (u2 I 379 (I 306 104) v) 306 104 ((u2 I 379 (I 306 104) v) 306 104 + 1)) := FR_u2 ⟨rfl, rfl⟩
  have e4 : (u2 I 379 (I 306 104) v) 306 104 = I 306 104 := f1 _ _ (fun c => by omega)
  refine S_X11_qCode_0 hs (by omega) ⟨⟨?_, ?_, ?_, ?_, h.2.2.2.2⟩, (FR_u2 (Or.inr rfl)).tr (FR_u2 (Or.inl ⟨rfl, rfl⟩)), rfl⟩
  · rw [f2 306 106 (fun c => by omega), f1 306 106 (fun c => by omega)]
    exact h.1.fr (fun i _ _ => (f2 380 i (fun c => by omega)).trans (f1 380 i (fun c => by omega)))
  · rw [u2_at, e4]
    exact (h.2.1.push).fr (fun i _ _ => f2 379 i (fun c => by omega))
  · rw [f2 306 108 (fun c => by omega), f1 306 108 (fun c => by omega)]; exact h.2.2.1
  · rw [List.length_cons, List.length_append]; omega
theorem c_qDrops {X : CX} {I R : PF} {v : Int} {U B C : List Int} (hs : Shp R) (h : KSt I (v :: U) B C) :
    CN X 2 mX11_qDrops [(2, 306)] I R (fun _ I' R' => KSt I' U B (v :: C) ∧ FR (fun x y => (x = 306 ∧ (y = 104 ∨ y = 106)) ∨ x = 379) I I' ∧ R' = R) := by
  refine callee_b (by decide +kernel) (Nat.le_of_ble_eq_true rfl) rfl ?_
  have hw := h.w
  have hl2 := h.le
  rw [List.length_cons] at hw hl2
  obtain ⟨h1, h2, h3, h4, h5⟩ := h
  have k2 : KSt (u2 I 306 106 (I 306 106 - 1)) U B C := by
    refine ⟨?_, ?_, ?_, ?_, fun w hw => h5 w (mem_app hw)⟩
    · rw [u2_at]; exact (h1.2).row (u2_row (by decide))
    · rw [u2_j (by decide)]; exact h2.row (u2_row (by decide))
    · rw [u2_j (by decide)]; exact h3
    · rw [List.length_append]; omega
  have e : u2 I 306 106 (I 306 106 - 1) 380 (u2 I 306 106 (I 306 106 - 1) 306 106) = v := by rw [u2_at, u2_o (by decide)]; exact h1.1
  refine S_X11_qDrops_0 (d1 := 1) hs (by rw [u2_at]; omega) (by omega) (by rw [e]; exact c_qCode (v := v) hs k2 (by omega)) (fun z I2 R2 q => ?_)
  · obtain ⟨q1, q2, rfl⟩ := q
    exact S_X11_qDrops_23 ⟨q1, (FR_u2 (Or.inl ⟨rfl, Or.inr rfl⟩)).tr (q2.mono (fun x y c => by omega)), rfl⟩
def isBr (v : Int) : Prop := 20 ≤ v ∧ v ≤ 24
theorem c_qIsBracket {X : CX} {I R : PF} {x : Int} (hx : inR x) : CN X 1 mX11_qIsBracket [(0, x)] I R (fun v I' R' => v.2 = bi (isBr x) ∧ I' = I ∧ R' = R) := by
  refine callee_b (by decide +kernel) (Nat.le_of_ble_eq_true rfl) rfl ?_
  refine S_X11_qIsBracket_0 hx (fun g => ?_) (fun g => ?_)
  · exact S_X11_qIsBracket_16 (S_X11_qIsBracket_17 (by decide) ⟨(bi_f (fun c => by unfold isBr at c; omega)).symm, rfl, rfl⟩)
  refine S_X11_qIsBracket_6 hx (fun g2 => ?_) (fun g2 => ?_)
  · exact S_X11_qIsBracket_16 (S_X11_qIsBracket_17 (by decide) ⟨(bi_f (fun c => by unfold isBr at c; omega)).symm, rfl, rfl⟩)
  · exact S_X11_qIsBracket_12 (S_X11_qIsBracket_17 (by decide) ⟨(bi_t (show isBr x from ⟨g, g2⟩)).symm, rfl, rfl⟩)
/-- the top sign that waits above the base is x -/
def onT (x : Int) : List Int → Prop
  | [] => False
  | v :: _ => v = x
theorem c_qIsOn {X : CX} {I R : PF} {x : Int} {U B C : List Int} (hs : Shp R) (h : KSt I U B C) (hx : inR x) :
    CN X 0 mX11_qIsOn [(2, 306), (0, x)] I R (fun v I' R' => v.2 = bi (onT x (U ++ B)) ∧ I' = I ∧ R' = R) := by
  refine callee_b (by decide +kernel) (Nat.le_of_ble_eq_true rfl) rfl ?_
  have hw := h.w
  have hl2 := h.le
  obtain ⟨h1, h2, h3, h4, h5⟩ := h
  refine S_X11_qIsOn_0 (by omega) (fun g => ?_) (fun g => ?_)
  · refine S_X11_qIsOn_26 (S_X11_qIsOn_27 (by decide) ⟨(bi_f (fun c => ?_)).symm, rfl, rfl⟩)
    have e : U ++ B = [] := List.eq_nil_of_length_eq_zero (by rw [List.length_append]; omega)
    rw [e] at c; exact c
  cases hUB : U ++ B with
  | nil => have := congrArg List.length hUB; rw [List.length_append] at this; simp only [List.length_nil] at this; omega
  | cons w r =>
    rw [hUB] at h1 h5
    have e : I 380 (I 306 106 - 1) = w := h1.1
    have hwr := h5 w List.mem_cons_self
    refine S_X11_qIsOn_7 hs (by omega) (by rw [e]; exact hwr) hx (fun g2 => ?_) (fun g2 => ?_)
    · exact S_X11_qIsOn_26 (S_X11_qIsOn_27 (by decide) ⟨(bi_f (fun c => g2 (e.trans c))).symm, rfl, rfl⟩)
    · exact S_X11_qIsOn_22 (S_X11_qIsOn_27 (by decide) ⟨(bi_t (show w = x from e.symm.trans g2)).symm, rfl, rfl⟩)
def brk : List Int → Int
  | [] => -1
  | v :: r => if 20 ≤ v ∧ v ≤ 24 then v else brk r
theorem brk_loop {X : CX} {d : Nat} {I R : PF} {Q : PV → PF → PF → Prop} {B : List Int} (hs : Shp R) (hd : 2 ≤ d) (hb : I 306 108 = B.length) : ∀ (U : List Int) (x : Int), Stk I 380 (U ++ B) (x + 1) → x < 1650 → (∀ v, v ∈ U ++ B → inR v) → Q (0, brk U) I R → PN X d mX11_qBracket 7 [(2, 306), (0, x)] [] I R Q := by
  intro U
  induction U with
  | nil =>
    intro x h hx hr hQ
    have := h.len
    simp only [List.nil_append] at this
    refine S_X11_qBracket_7 (by omega) (by omega) (fun g => ?_) (fun g => by omega)
    refine S_X11_qBracket_33 (by omega) (by omega) (fun g => ?_) (fun g => by omega)
    exact S_X11_qBracket_50 (S_X11_qBracket_51 hQ)
  | cons v U ih =>
    intro x h hx hr hQ
    have hl := h.len
    simp only [List.cons_append, List.length_cons, List.length_append] at hl
    have e : I 380 x = v := by have := h.1; rw [show x + 1 - 1 = x by omega] at this; exact this
    have hv := hr v List.mem_cons_self
    refine S_X11_qBracket_7 (by omega) (by omega) (fun g => by omega) (fun g => ?_)
    refine S_X11_qBracket_15 (d1 := 1) hs (by omega) (by omega) (by rw [e]; exact c_qIsBracket hv) (fun z I2 R2 q => ?_)
    obtain ⟨(hz : z = _), rfl, rfl⟩ := q
    have hb2 := bi_r (isBr v)
    refine S_X11_qBracket_24 (by omega) (fun g2 => ?_) (fun g2 => ?_)
    · have c := bi_1 (fun c => g2 (hz.trans c))
      refine S_X11_qBracket_33 (by omega) (by omega) (fun g => by omega) (fun g => ?_)
      refine S_X11_qBracket_41 hs (by omega) (S_X11_qBracket_51 ?_)
      rw [e]
      have : brk (v :: U) = v := if_pos c
      rw [this] at hQ; exact hQ
    · have c := bi_0 (hz.symm.trans g2)
      have : brk (v :: U) = brk U := if_neg c
      rw [this] at hQ
      refine S_X11_qBracket_27 (ih (x + (-1)) ?_ (by omega) (fun w hw => hr w (List.mem_cons_of_mem _ hw)) hQ)
      have := h.2
      rw [show x + 1 - 1 = x + -1 + 1 by omega] at this; exact this
theorem c_qBracket {X : CX} {I R : PF} {U B C : List Int} (hs : Shp R) (h : KSt I U B C) :
    CN X 2 mX11_qBracket [(2, 306)] I R (fun v I' R' => v.2 = brk U ∧ I' = I ∧ R' = R) := by
  refine callee_b (by decide +kernel) (Nat.le_of_ble_eq_true rfl) rfl ?_
  have hw := h.w
  have hl2 := h.le
  refine S_X11_qBracket_0 (brk_loop hs (by omega) h.2.2.1 U _ (by rw [show I 306 106 - 1 + 1 = I 306 106 by omega]; exact h.1) (by omega) h.2.2.2.2 ⟨rfl, rfl, rfl⟩)
/-- what waits above the base down to the bracket, and the codes behind it -/
def dtbU : List Int → List Int
  | [] => []
  | v :: r => if 20 ≤ v ∧ v ≤ 24 then v :: r else dtbU r
def dtbC : List Int → List Int → List Int
  | [], C => C
  | v :: r, C => if 20 ≤ v ∧ v ≤ 24 then C else dtbC r (v :: C)
def mD (x y : Int) : Prop := (x = 306 ∧ (y = 104 ∨ y = 106)) ∨ x = 379
theorem dtb_loop {X : CX} {d : Nat} {R : PF} {Q : PV → PF → PF → Prop} {B : List Int} (hs : Shp R) (hd : 3 ≤ d) : ∀ (U C : List Int) (I : PF), KSt I U B C → (∀ I', KSt I' (dtbU U) B (dtbC U C) → FR mD I I' → Q (9, 0) I' R) → PN X d mX11_qDropsToBracket 0 [(2, 306)] [] I R Q := by
  intro U
  induction U with
  | nil =>
    intro C I h hQ
    have hw := h.w
    have hl2 := h.le
    have hb := h.2.2.1
    simp only [List.length_nil] at hw hl2
    refine S_X11_qDropsToBracket_0 (by omega) (by omega) (fun g => ?_) (fun g => by omega)
    exact S_X11_qDropsToBracket_35 (hQ I h FR.rf)
  | cons v U ih =>
    intro C I h hQ
    have hw := h.w
    have hl2 := h.le
    have hb := h.2.2.1
    simp only [List.length_cons] at hw hl2
    have e : I 380 (I 306 106 - 1) = v := h.1.1
    have hv := h.2.2.2.2 v List.mem_cons_self
    refine S_X11_qDropsToBracket_0 (by omega) (by omega) (fun g => by omega) (fun g => ?_)
    refine S_X11_qDropsToBracket_11 (d1 := 1) hs (by omega) (by omega) (by rw [e]; exact c_qIsBracket hv) (fun z I2 R2 q => ?_)
    obtain ⟨(hz : z = _), rfl, rfl⟩ := q
    have hb2 := bi_r (isBr v)
    refine S_X11_qDropsToBracket_25 (by omega) (fun g2 => ?_) (fun g2 => ?_)
    · have c := bi_1 (fun c => g2 (hz.trans c))
      have e1 : dtbU (v :: U) = v :: U := if_pos c
      have e2 : dtbC (v :: U) C = C := if_pos c
      rw [e1, e2] at hQ
      exact S_X11_qDropsToBracket_35 (hQ I2 h FR.rf)
    · have c := bi_0 (hz.symm.trans g2)
      have e1 : dtbU (v :: U) = dtbU U := if_neg c
      have e2 : dtbC (v :: U) C = dtbC U (v :: C) := if_neg c
      rw [e1, e2] at hQ
      refine S_X11_qDropsToBracket_28 (d1 := 2) (by omega) (c_qDrops hs h) (fun z3 I3 R3 q => ?_)
      obtain ⟨q1, q2, rfl⟩ := q
      exact S_X11_qDropsToBracket_32 (ih (v :: C) I3 q1 (fun I' k f => hQ I' k ((q2 : FR mD I2 I3).tr f)))
theorem c_qDropsToBracket {X : CX} {I R : PF} {U B C : List Int} (hs : Shp R) (h : KSt I U B C) :
    CN X 3 mX11_qDropsToBracket [(2, 306)] I R (fun _ I' R' => KSt I' (dtbU U) B (dtbC U C) ∧ FR mD I I' ∧ R' = R) := by
  refine callee_b (by decide +kernel) (Nat.le_of_ble_eq_true rfl) rfl ?_
  exact dtb_loop hs (by omega) U C I h (fun I' k f => ⟨k, f, rfl⟩)
/-- behind a part: the words that took it go -/
def epU : List Int → List Int
  | [] => []
  | v :: r => if 60 ≤ v then epU r else v :: r
def epC : List Int → List Int → List Int
  | [], C => C
  | v :: r, C => if 60 ≤ v then epC r (v :: C) else C
def epN : List Int → Int
  | [] => 0
  | v :: r => if 60 ≤ v then epN r + 1 else 0
def mE (x y : Int) : Prop := (x = 306 ∧ (y = 104 ∨ y = 106 ∨ y = 107)) ∨ x = 379
theorem ep_loop {X : CX} {d : Nat} {R : PF} {Q : PV → PF → PF → Prop} {B : List Int} (hs : Shp R) (hd : 3 ≤ d) : ∀ (U C : List Int) (I : PF), KSt I U B C → I 306 5 = 0 → (∀ I', KSt I' (epU U) B (epC U C) → I' 306 107 = I 306 107 - epN U → FR mE I I' → Q (9, 0) I' R) → PN X d mX11_qEndsPart 0 [(2, 306)] [] I R Q := by
  intro U
  induction U with
  | nil =>
    intro C I h h5 hQ
    have hw := h.w
    have hl2 := h.le
    have hb := h.2.2.1
    simp only [List.length_nil] at hw hl2
    refine S_X11_qEndsPart_0 (by rw [h5]; decide) (fun g => absurd h5 g) (fun _ => ?_)
    refine S_X11_qEndsPart_7 (by omega) (by omega) (fun g => ?_) (fun g => by omega)
    exact S_X11_qEndsPart_51 (hQ I h (by show _ = _ - 0; omega) FR.rf)
  | cons v U ih =>
    intro C I h h5 hQ
    have hw := h.w
    have hl2 := h.le
    have hb := h.2.2.1
    simp only [List.length_cons] at hw hl2
    have e : I 380 (I 306 106 - 1) = v := h.1.1
    have hv := h.2.2.2.2 v List.mem_cons_self
    refine S_X11_qEndsPart_0 (by rw [h5]; decide) (fun g => absurd h5 g) (fun _ => ?_)
    refine S_X11_qEndsPart_7 (by omega) (by omega) (fun g => by omega) (fun g => ?_)
    refine S_X11_qEndsPart_18 hs (by omega) (by rw [e]; exact hv) (fun g2 => ?_) (fun g2 => ?_)
    · have e1 : epU (v :: U) = v :: U := if_neg (by omega)
      have e2 : epC (v :: U) C = C := if_neg (by omega)
      have e3 : epN (v :: U) = 0 := if_neg (by omega)
      rw [e1, e2, e3] at hQ
      exact S_X11_qEndsPart_51 (hQ I h (by omega) FR.rf)
    · have e1 : epU (v :: U) = epU U := if_pos (by omega)
      have e2 : epC (v :: U) C = epC U (v :: C) := if_pos (by omega)
      have e3 : epN (v :: U) = epN U + 1 := if_pos (by omega)
      rw [e1, e2, e3] at hQ
      have k : KSt (u2 I 306 107 (I 306 107 - 1)) (v :: U) B C := h.fr (FR_u2 (P := fun x y => x = 306 ∧ y = 107) ⟨rfl, rfl⟩) (fun x y c => by omega)
      refine S_X11_qEndsPart_34 (d1 := 2) (by omega) (c_qDrops hs k) (fun z3 I3 R3 q => ?_)
      obtain ⟨q1, q2, rfl⟩ := q
      have f3 : FR mE I I3 := (FR_u2 (Or.inl ⟨rfl, by decide⟩)).tr (q2.mono (fun x y c => by unfold mE; omega))
      refine S_X11_qEndsPart_48 (ih (v :: C) I3 q1 ?_ (fun I' k h7 f => hQ I' k ?_ (f3.tr f)))
      · rw [f3 306 5 (fun c => by unfold mE at c; omega)]; exact h5
      · rw [h7, q2 306 107 (fun c => by omega), u2_at]; omega
theorem c_qEndsPart {X : CX} {I R : PF} {U B C : List Int} (hs : Shp R) (h : KSt I U B C) (h5 : I 306 5 = 0) :
    CN X 3 mX11_qEndsPart [(2, 306)] I R (fun _ I' R' => KSt I' (epU U) B (epC U C) ∧ I' 306 107 = I 306 107 - epN U ∧ FR mE I I' ∧ R' = R) := by
  refine callee_b (by decide +kernel) (Nat.le_of_ble_eq_true rfl) rfl ?_
  exact ep_loop hs (by omega) U C I h h5 (fun I' k h7 f => ⟨k, h7, f, rfl⟩)
theorem c_qEndsPart_bad {X : CX} {I R : PF} (h5 : I 306 5 ≠ 0) (hr : inR (I 306 5)) : CN X 3 mX11_qEndsPart [(2, 306)] I R (fun _ I' R' => I' = I ∧ R' = R) := by
  refine callee_b (by decide +kernel) (Nat.le_of_ble_eq_true rfl) rfl ?_
  exact S_X11_qEndsPart_0 hr (fun g => S_X11_qEndsPart_51 ⟨rfl, rfl⟩) (fun g => absurd g h5)
