/-! ===== a square's text as the document tells it ===== -/
noncomputable def cif {α : Type} (c : Prop) (a b : α) : α := @ite _ c (Classical.propDecidable c) a b
theorem cif_t {α : Type} {c : Prop} {a b : α} (h : c) : cif c a b = a := @if_pos _ (Classical.propDecidable _) h _ _ _
theorem cif_f {α : Type} {c : Prop} {a b : α} (h : ¬ c) : cif c a b = b := @if_neg _ (Classical.propDecidable _) h _ _ _
theorem cif_c {α : Type} {c c' : Prop} {a b : α} (h : c ↔ c') : cif c a b = cif c' a b := by rw [propext h]
/-- the first of n for which P holds, -1 for none -/
def Fst (P : Int → Prop) (n r : Int) : Prop := (r = -1 ∧ ∀ i, 0 ≤ i → i < n → ¬ P i) ∨ (0 ≤ r ∧ r < n ∧ P r ∧ ∀ j, 0 ≤ j → j < r → ¬ P j)
theorem Fst.eq {P : Int → Prop} {n r r' : Int} (h : Fst P n r) (h' : Fst P n r') : r = r' := by
  rcases h with ⟨a1, a2⟩ | ⟨a1, a2, a3, a4⟩
  · rcases h' with ⟨b1, b2⟩ | ⟨b1, b2, b3, b4⟩
    · omega
    · exact absurd b3 (a2 _ b1 b2)
  · rcases h' with ⟨b1, b2⟩ | ⟨b1, b2, b3, b4⟩
    · exact absurd a3 (b2 _ a1 a2)
    · by_cases c : r < r'
      · exact absurd a3 (b4 r a1 c)
      · by_cases c2 : r' < r
        · exact absurd b3 (a4 r' b1 c2)
        · omega
theorem Fst.ex (P : Int → Prop) : ∀ k : Nat, ∃ r, Fst P k r
  | 0 => ⟨-1, Or.inl ⟨rfl, fun i h0 h1 => by omega⟩⟩
  | k + 1 => by
    obtain ⟨r, h⟩ := Fst.ex P k
    rcases h with ⟨a1, a2⟩ | ⟨a1, a2, a3, a4⟩
    · by_cases c : P (k : Int)
      · exact ⟨k, Or.inr ⟨by omega, by omega, c, fun j j0 j1 => a2 j j0 j1⟩⟩
      · exact ⟨-1, Or.inl ⟨rfl, fun i i0 i1 => by
          by_cases e : i = k
          · rw [e]; exact c
          · exact a2 i i0 (by omega)⟩⟩
    · exact ⟨r, Or.inr ⟨a1, by omega, a3, a4⟩⟩
noncomputable def fI (P : Int → Prop) (n : Int) : Int := (Fst.ex P n.toNat).choose
theorem fI_fst (P : Int → Prop) (n : Int) : Fst P n (fI P n) := by
  have h := (Fst.ex P n.toNat).choose_spec
  show Fst P n (Fst.ex P n.toNat).choose
  rcases h with ⟨a1, a2⟩ | ⟨a1, a2, a3, a4⟩
  · exact Or.inl ⟨a1, fun i i0 i1 => a2 i i0 (by omega)⟩
  · exact Or.inr ⟨a1, by omega, a3, a4⟩
theorem Fst.fI {P : Int → Prop} {n r : Int} (h : Fst P n r) : r = fI P n := h.eq (fI_fst P n)
theorem fI_none {P : Int → Prop} {n : Int} : fI P n = -1 ↔ ∀ i, 0 ≤ i → i < n → ¬ P i := by
  rcases fI_fst P n with ⟨a1, a2⟩ | ⟨a1, a2, a3, a4⟩
  · exact ⟨fun _ => a2, fun _ => a1⟩
  · exact ⟨fun h => by omega, fun h => absurd a3 (h _ a1 a2)⟩
theorem fI_congr {P P' : Int → Prop} {n : Int} (h : ∀ i, 0 ≤ i → i < n → (P i ↔ P' i)) : fI P n = fI P' n := by
  refine Fst.fI ?_
  rcases fI_fst P n with ⟨a1, a2⟩ | ⟨a1, a2, a3, a4⟩
  · exact Or.inl ⟨a1, fun i i0 i1 c => a2 i i0 i1 ((h i i0 i1).mpr c)⟩
  · exact Or.inr ⟨a1, a2, (h _ a1 a2).mp a3, fun j j0 j1 c => a4 j j0 j1 ((h j j0 (by omega)).mpr c)⟩
def vN (t : Int → Int) (n : Int) : SA → Int
  | .inl q => valN t n q
  | .inr _ => 0
def vW (t : Int → Int) (n : Int) : SA → Int
  | .inl q => valW t n q
  | .inr _ => 0
def plS (t : Int → Int) (n : Int) : SA → Int
  | .inl q => skp t n q.1
  | .inr _ => 0
def fltA (k p : Int) : SA → SA
  | .inl _ => .inr (k, p)
  | .inr f => .inr f
/-- is the name told already -/
def knw (D : PF) (v : Int) : Prop := (∃ k, 0 ≤ k ∧ k < D 339 0 ∧ D 340 k = v) ∨ (∃ k, 0 ≤ k ∧ k < D 339 1 ∧ D 340 (6 + k) = v)
def wlT (D : PF) (x y : Int) : Prop := ∃ k, 0 ≤ k ∧ k < D 339 2 ∧ D 344 (2 * k) = x ∧ D 344 (2 * k + 1) = y
def psT (D : PF) (x y : Int) : Prop := ∃ k, 0 ≤ k ∧ k < D 339 1 ∧ D 343 (4 * k) = x ∧ D 343 (4 * k + 1) = y
noncomputable def newS (t : Int → Int) (n : Int) (D : PF) (s : SA) : SA := cif (knw D (vW t n s)) (fltA 3 (plS t n s) (namS t n s)) (namS t n s)
def plaX (t : Int → Int) (n : Int) (D : PF) (s : SA) : SA := numS t n 0 (D 341 0 - 1) s
def plaY (t : Int → Int) (n : Int) (D : PF) (s : SA) : SA := numS t n 0 (D 341 1 - 1) (plaX t n D s)
def plaB (t : Int → Int) (n : Int) (D : PF) (tw : Prop) (s : SA) : Prop := wlT D (vN t n s) (vN t n (plaX t n D s)) ∨ psT D (vN t n s) (vN t n (plaX t n D s)) ∨ (tw ∧ vN t n s = D 341 2 ∧ vN t n (plaX t n D s) = D 341 3)
noncomputable def plaS (t : Int → Int) (n : Int) (D : PF) (tw : Prop) (s : SA) : SA := cif (plaB t n D tw s) (fltA 2 (plS t n (plaX t n D s)) (plaY t n D s)) (plaY t n D s)
noncomputable def lwI (D : PF) (w : Int) : Int := fI (fun k => D 340 k = w) (D 339 0)
noncomputable def lawR (t : Int → Int) (n : Int) (D : PF) (s : SA) : SA := cif (lwI D (vW t n s) = -1) (fltA 3 (plS t n s) (namS t n s)) (namS t n s)
noncomputable def lawS (t : Int → Int) (n : Int) (D : PF) (b : Int) (s : SA) : SA := cif (D 339 0 = 6) (fltA 5 b s) (newS t n D s)
def lawD (t : Int → Int) (n : Int) (D : PF) (s : SA) : PF := u2 (u2 D 340 (D 339 0) (vW t n s)) 339 0 (D 339 0 + 1)
noncomputable def pr2 (t : Int → Int) (n : Int) (D : PF) (s : SA) : SA := askC t n 24977727 (newS t n D s)
noncomputable def pr4 (t : Int → Int) (n : Int) (D : PF) (s : SA) : SA := askC t n 287754525 (plaS t n D False (pr2 t n D s))
noncomputable def pr6 (t : Int → Int) (n : Int) (D : PF) (s : SA) : SA := askC t n 230176647 (numS t n 0 9 (pr4 t n D s))
noncomputable def pr8 (t : Int → Int) (n : Int) (D : PF) (s : SA) : SA := askC t n 65479509 (numS t n 0 2 (pr6 t n D s))
noncomputable def pr9 (t : Int → Int) (n : Int) (D : PF) (s : SA) : SA := lawR t n D (pr8 t n D s)
noncomputable def prB (t : Int → Int) (n : Int) (D : PF) (s : SA) : SA := askC t n 94421673 (numS t n 0 8 (goT t n (pr9 t n D s)))
noncomputable def prZ (t : Int → Int) (n : Int) (D : PF) (s : SA) : SA := if tw t n (pr9 t n D s) = 281319642 then numS t n 0 3 (prB t n D s) else pr9 t n D s
noncomputable def perS (t : Int → Int) (n : Int) (D : PF) (b : Int) (s : SA) : SA := cif (D 339 1 = 6) (fltA 5 b s) (prZ t n D s)
noncomputable def prW (t : Int → Int) (n : Int) (D : PF) (s : SA) : Int := if tw t n (pr9 t n D s) = 281319642 then vN t n (goT t n (pr9 t n D s)) else 0
noncomputable def prF (t : Int → Int) (n : Int) (D : PF) (s : SA) : Int := if tw t n (pr9 t n D s) = 281319642 then vN t n (prB t n D s) else 0
noncomputable def perD (t : Int → Int) (n : Int) (D : PF) (s : SA) : PF := u2 (u2 (u2 (u2 (u2 (u2 (u2 (u2 (u2 D 340 (6 + D 339 1) (vW t n s)) 342 (4 * D 339 1) (vN t n (pr4 t n D s))) 342 (4 * D 339 1 + 1) (vN t n (pr6 t n D s))) 342 (4 * D 339 1 + 2) (lwI D (vW t n (pr8 t n D s)))) 343 (4 * D 339 1) (vN t n (pr2 t n D s))) 343 (4 * D 339 1 + 1) (vN t n (plaX t n D (pr2 t n D s)))) 343 (4 * D 339 1 + 2) (prW t n D s)) 343 (4 * D 339 1 + 3) (prF t n D s)) 339 1 (D 339 1 + 1)
noncomputable def walS (t : Int → Int) (n : Int) (D : PF) (b : Int) (s : SA) : SA := cif (D 339 2 = 10) (fltA 5 b s) (plaS t n D True s)
def walD (t : Int → Int) (n : Int) (D : PF) (s : SA) : PF := u2 (u2 (u2 D 344 (2 * D 339 2) (vN t n s)) 344 (2 * D 339 2 + 1) (vN t n (plaX t n D s))) 339 2 (D 339 2 + 1)
def gusS (t : Int → Int) (n : Int) (s : SA) : SA := numS t n 0 100 (askC t n 111991167 s)
def gusD (t : Int → Int) (n : Int) (D : PF) (s : SA) : PF := u2 D 306 48 (vN t n (askC t n 111991167 s))
/-- a formula, of winds (0) or may (1) -/
noncomputable def fRd (t : Int → Int) (n w : Int) (q : Int × Bool) : RD := if w = 1 then tstF t n 1 1601 q else sumF t n 0 1601 q
noncomputable def fSA (t : Int → Int) (n w : Int) : SA → SA
  | .inl q => match fRd t n w q with
    | .inl r => .inl r.1
    | .inr f => .inr f
  | .inr f => .inr f
noncomputable def fCo (t : Int → Int) (n w : Int) : SA → List Int
  | .inl q => match fRd t n w q with
    | .inl r => r.2.reverse
    | .inr _ => []
  | .inr _ => []
noncomputable def codS (t : Int → Int) (n : Int) (D : PF) (w b : Int) (s : SA) : SA := cif (D 345 w ≠ -1) (fltA 5 b s) (fSA t n w s)
noncomputable def codD (t : Int → Int) (n : Int) (D : PF) (w : Int) (s : SA) : PF := fun x y =>
  if x = 345 ∧ y = w then D 306 53 else if x = 346 ∧ y = w then D 306 53 + (fCo t n w s).length else if x = 306 ∧ y = 53 then D 306 53 + (fCo t n w s).length
  else if x = 347 ∧ D 306 53 ≤ y ∧ y < D 306 53 + (fCo t n w s).length then (fCo t n w s).getD (y - D 306 53).toNat 0 else D x y
noncomputable def stmS (t : Int → Int) (n : Int) (D : PF) (c : Int) (s : SA) : SA :=
  if c = 60 then fltA 5 (plS t n s) s
  else askS t n 59 (if tw t n s = 173171034 then lawS t n D (plS t n s) (goT t n s) else if tw t n s = 232608281 then perS t n D (plS t n s) (goT t n s) else if tw t n s = 330801246 then walS t n D (plS t n s) (goT t n s)
    else if tw t n s = 335086821 then codS t n D 0 (plS t n s) (goT t n s) else if tw t n s = 187559307 then codS t n D 1 (plS t n s) (goT t n s) else gusS t n s)
noncomputable def stmD (t : Int → Int) (n : Int) (D : PF) (s : SA) : PF :=
  if tw t n s = 173171034 then lawD t n D (goT t n s) else if tw t n s = 232608281 then perD t n D (goT t n s) else if tw t n s = 330801246 then walD t n D (goT t n s)
    else if tw t n s = 335086821 then codD t n D 0 (goT t n s) else if tw t n s = 187559307 then codD t n D 1 (goT t n s) else gusD t n D s
noncomputable def stmL (t : Int → Int) (n : Int) : Nat → SA → PF → Int → SA × PF × Int
  | 0, s, D, c => (s, D, c)
  | k + 1, s, D, c => if nxt t n s = -1 then (s, D, c) else stmL t n k (stmS t n D c s) (stmD t n D s) (c + 1)
def sg2 (t : Int → Int) (n : Int) : SA := askC t n 282078293 (.inl (0, false))
def sg4 (t : Int → Int) (n : Int) : SA := askC t n 41983839 (numS t n 2 9 (sg2 t n))
def sg6 (t : Int → Int) (n : Int) : SA := askC t n 295406595 (numS t n 2 9 (sg4 t n))
def sg7 (t : Int → Int) (n : Int) : SA := numS t n 0 (vN t n (sg2 t n) - 1) (sg6 t n)
def sg9 (t : Int → Int) (n : Int) : SA := askC t n 119717838 (numS t n 0 (vN t n (sg4 t n) - 1) (sg7 t n))
def sgZ (t : Int → Int) (n : Int) : SA := askS t n 59 (numS t n 1 9 (sg9 t n))
def sgD (t : Int → Int) (n : Int) (D : PF) : PF := u2 (u2 (u2 (u2 (u2 D 341 0 (vN t n (sg2 t n))) 341 1 (vN t n (sg4 t n))) 341 2 (vN t n (sg6 t n))) 341 3 (vN t n (sg7 t n))) 341 4 (vN t n (sg9 t n))
/-- ahead of a text -/
def D0 (D : PF) : PF := u2 (u2 (u2 (u2 (u2 (u2 (u2 D 306 53 0) 339 0 0) 339 1 0) 339 2 0) 345 0 (-1)) 345 1 (-1)) 306 48 0
/-- the whole text: where it ends or its fault, what it tells, how many statements -/
noncomputable def sgR (t : Int → Int) (n : Int) (D : PF) : SA × PF × Int := stmL t n 61 (sgZ t n) (sgD t n (D0 D)) 1
/-! what is told is in range -/
def okW (v : Int) : Prop := 1 ≤ v ∧ v < 387420489 ∧ v % 27 ≠ 0
def GD (D : PF) : Prop := (2 ≤ D 341 0 ∧ D 341 0 ≤ 9 ∧ 2 ≤ D 341 1 ∧ D 341 1 ≤ 9 ∧ 0 ≤ D 341 2 ∧ D 341 2 < D 341 0 ∧ 0 ≤ D 341 3 ∧ D 341 3 < D 341 1 ∧ 1 ≤ D 341 4 ∧ D 341 4 ≤ 9) ∧
  (0 ≤ D 339 0 ∧ D 339 0 ≤ 6 ∧ 0 ≤ D 339 1 ∧ D 339 1 ≤ 6 ∧ 0 ≤ D 339 2 ∧ D 339 2 ≤ 10) ∧
  (∀ k, 0 ≤ k → k < D 339 0 → okW (D 340 k)) ∧ (∀ k, 0 ≤ k → k < D 339 1 → okW (D 340 (6 + k))) ∧
  (∀ k, 0 ≤ k → k < D 339 1 → 0 ≤ D 342 (4 * k) ∧ D 342 (4 * k) ≤ 9 ∧ 0 ≤ D 342 (4 * k + 1) ∧ D 342 (4 * k + 1) ≤ 2 ∧ 0 ≤ D 342 (4 * k + 2) ∧ D 342 (4 * k + 2) < D 339 0) ∧
  (∀ k, 0 ≤ k → k < D 339 1 → 0 ≤ D 343 (4 * k) ∧ D 343 (4 * k) < D 341 0 ∧ 0 ≤ D 343 (4 * k + 1) ∧ D 343 (4 * k + 1) < D 341 1 ∧ 0 ≤ D 343 (4 * k + 2) ∧ D 343 (4 * k + 2) ≤ 8 ∧ 0 ≤ D 343 (4 * k + 3) ∧ D 343 (4 * k + 3) ≤ 3 ∧ ¬ wlT D (D 343 (4 * k)) (D 343 (4 * k + 1))) ∧
  (∀ k j, 0 ≤ k → k < j → j < D 339 1 → ¬ (D 343 (4 * k) = D 343 (4 * j) ∧ D 343 (4 * k + 1) = D 343 (4 * j + 1))) ∧
  (∀ k, 0 ≤ k → k < D 339 2 → 0 ≤ D 344 (2 * k) ∧ D 344 (2 * k) < D 341 0 ∧ 0 ≤ D 344 (2 * k + 1) ∧ D 344 (2 * k + 1) < D 341 1) ∧
  (0 ≤ D 306 48 ∧ D 306 48 ≤ 100) ∧ (0 ≤ D 306 53 ∧ D 306 53 ≤ 1600) ∧ (D 345 0 = -1 ∨ 0 ≤ D 345 0 ∧ D 345 0 < D 346 0 ∧ D 346 0 ≤ D 306 53) ∧ (D 345 1 = -1 ∨ 0 ≤ D 345 1 ∧ D 345 1 < D 346 1 ∧ D 346 1 ≤ D 306 53)
