/-! ===== formulas as the document tells them: a part, a product, a sum, a fact, a test ===== -/
abbrev RD : Type := ((Int × Bool) × List Int) ⊕ (Int × Int)
/-- parts p joined by two signs, from the left -/
def loopR (t : Int → Int) (n : Int) (p : (Int × Bool) → List Int → RD) (c1 o1 c2 o2 : Int) : Nat → (Int × Bool) → List Int → RD
  | 0, q, C => .inl (q, C)
  | k + 1, q, C => if nxt t n (.inl q) = c1 ∨ nxt t n (.inl q) = c2 then
      (match p (skp t n q.1 + 1, false) C with
      | .inr f => .inr f
      | .inl r => loopR t n p c1 o1 c2 o2 k r.1 ((if nxt t n (.inl q) = c1 then o1 else o2) :: r.2))
    else .inl (q, C)
def prodR (t : Int → Int) (n : Int) (K : Nat) (p : (Int × Bool) → List Int → RD) (q : Int × Bool) (C : List Int) : RD := match p q C with
  | .inr f => .inr f
  | .inl r => loopR t n p 42 3 47 4 K r.1 r.2
def sumR (t : Int → Int) (n : Int) (K : Nat) (p : (Int × Bool) → List Int → RD) (q : Int × Bool) (C : List Int) : RD := match prodR t n K p q C with
  | .inr f => .inr f
  | .inl r => loopR t n (prodR t n K p) 43 1 45 2 K r.1 r.2
/-- a part: may one more be opened, how a sum and a part within are read -/
noncomputable def partB (t : Int → Int) (n tk : Int) (ok : Bool) (S P : (Int × Bool) → List Int → RD) (q : Int × Bool) (C : List Int) : RD :=
  if nxt t n (.inl q) = 40 then
    (if ok = true then (match S (skp t n q.1 + 1, false) C with
      | .inr f => .inr f
      | .inl r => if nxt t n (.inl r.1) = 41 then .inl ((skp t n r.1.1 + 1, false), r.2) else .inr (1, skp t n r.1.1))
    else .inr (4, skp t n q.1))
  else if tw t n (.inl q) = 191594322 ∨ tw t n (.inl q) = 187539624 then
    (if nxt t n (.inl (run isL t n (skp t n q.1), true)) = 40 then
      (if ok = true then (match S (skp t n (run isL t n (skp t n q.1)) + 1, false) C with
        | .inr f => .inr f
        | .inl r => if nxt t n (.inl r.1) = 44 then
            (match S (skp t n r.1.1 + 1, false) r.2 with
            | .inr f => .inr f
            | .inl r2 => if nxt t n (.inl r2.1) = 41 then .inl ((skp t n r2.1.1 + 1, false), (if tw t n (.inl q) = 191594322 then 5 else 6) :: r2.2) else .inr (1, skp t n r2.1.1))
          else .inr (1, skp t n r.1.1))
      else .inr (4, skp t n (run isL t n (skp t n q.1))))
    else .inr (1, skp t n (run isL t n (skp t n q.1))))
  else if tk = 2 ∧ tw t n (.inl q) = 281319642 then
    (if ok = true then (match P (run isL t n (skp t n q.1), true) C with
      | .inr f => .inr f
      | .inl r => .inl (r.1, 60 :: r.2))
    else .inr (4, skp t n q.1))
  else opY t n tk q C
/-- a part, where b more may be opened -/
noncomputable def partR (t : Int → Int) (n tk : Int) (K : Nat) : Nat → (Int × Bool) → List Int → RD
  | 0 => partB t n tk false (fun _ _ => .inr (0, 0)) (fun _ _ => .inr (0, 0))
  | b + 1 => partB t n tk true (sumR t n K (partR t n tk K b)) (partR t n tk K b)
noncomputable def factB (t : Int → Int) (n : Int) (ok : Bool) (S T F : (Int × Bool) → List Int → RD) (q : Int × Bool) (C : List Int) : RD :=
  if nxt t n (.inl q) = 91 then
    (if ok = true then (match T (skp t n q.1 + 1, false) C with
      | .inr f => .inr f
      | .inl r => if nxt t n (.inl r.1) = 93 then .inl ((skp t n r.1.1 + 1, false), r.2) else .inr (1, skp t n r.1.1))
    else .inr (4, skp t n q.1))
  else if tw t n (.inl q) = 209249973 then
    (if ok = true then (match F (run isL t n (skp t n q.1), true) C with
      | .inr f => .inr f
      | .inl r => .inl (r.1, 12 :: r.2))
    else .inr (4, skp t n q.1))
  else if tw t n (.inl q) = 20962395 then .inl ((run isL t n (skp t n q.1), true), 13 :: C)
  else match S q C with
    | .inr f => .inr f
    | .inl r => if nxt t n (.inl r.1) = 60 ∨ nxt t n (.inl r.1) = 62 ∨ nxt t n (.inl r.1) = 61 then
        (match S (skp t n r.1.1 + 1, false) r.2 with
        | .inr f => .inr f
        | .inl r2 => .inl (r2.1, (if nxt t n (.inl r.1) = 60 then 7 else if nxt t n (.inl r.1) = 62 then 8 else 9) :: r2.2))
      else .inr (1, skp t n r.1.1)
/-- facts p joined by a word -/
def loopW (t : Int → Int) (n : Int) (p : (Int × Bool) → List Int → RD) (c w : Int) : Nat → (Int × Bool) → List Int → RD
  | 0, q, C => .inl (q, C)
  | k + 1, q, C => if tw t n (.inl q) = c then
      (match p (run isL t n (skp t n q.1), true) C with
      | .inr f => .inr f
      | .inl r => loopW t n p c w k r.1 (w :: r.2))
    else .inl (q, C)
def bothR (t : Int → Int) (n : Int) (K : Nat) (p : (Int × Bool) → List Int → RD) (q : Int × Bool) (C : List Int) : RD := match p q C with
  | .inr f => .inr f
  | .inl r => loopW t n p 21867813 10 K r.1 r.2
def tstR (t : Int → Int) (n : Int) (K : Nat) (p : (Int × Bool) → List Int → RD) (q : Int × Bool) (C : List Int) : RD := match bothR t n K p q C with
  | .inr f => .inr f
  | .inl r => loopW t n (bothR t n K p) 224799543 11 K r.1 r.2
noncomputable def factR (t : Int → Int) (n tk : Int) (K : Nat) : Nat → (Int × Bool) → List Int → RD
  | 0 => factB t n false (sumR t n K (partR t n tk K 0)) (fun _ _ => .inr (0, 0)) (fun _ _ => .inr (0, 0))
  | b + 1 => factB t n true (sumR t n K (partR t n tk K (b + 1))) (tstR t n K (factR t n tk K b)) (factR t n tk K b)
