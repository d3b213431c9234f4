/-! ===== what a formula's codes come to ===== -/
def clp (v : Int) : Int := max (-1000000) (min 1000000 v)
def jn (c a b : Int) : Int := if c = 1 then clp (a + b) else if c = 2 then clp (a - b) else if c = 3 then clp (a * b) else if c = 4 then (if b = 0 then 0 else a.fdiv b) else if c = 5 then min a b else if c = 6 then max a b else if c = 7 then (if a < b then 1 else 0) else if c = 8 then (if b < a then 1 else 0) else if c = 9 then (if a = b then 1 else 0) else if c = 10 then a * b else (if 0 < a + b then 1 else 0)
/-- one code: e what the parts are, s the way now -/
def ev1 (e : Int → Int) (s c : Int) (st : List Int) : List Int :=
  if 1000 ≤ c then (c - 1000) :: st
  else if 60 ≤ c then (match st with | v :: r => (if v = s then 1 else 0) :: r | [] => [])
  else if 40 ≤ c then e (c - 40) :: st
  else if c = 13 then 1 :: st
  else if c = 12 then (match st with | v :: r => (1 - v) :: r | [] => [])
  else (match st with | b :: a :: r => jn c a b :: r | x => x)
def ev (e : Int → Int) (s : Int) : List Int → List Int → List Int
  | [], st => st
  | c :: w, st => ev e s w (ev1 e s c st)
def bd (v : Int) : Prop := -1000000 ≤ v ∧ v ≤ 1000000
def b01 (v : Int) : Prop := v = 0 ∨ v = 1
/-- what a code needs of the stack -/
def okc (z c : Int) (st : List Int) : Prop := (∀ v, v ∈ st → bd v) ∧
  ((1000 ≤ c ∧ c ≤ 10999 ∧ st.length < 64) ∨ (c = 60 ∧ z = 2 ∧ 0 < st.length) ∨ (40 ≤ c ∧ c ≤ 50 ∧ al z (c - 40) ∧ st.length < 64) ∨ (c = 13 ∧ st.length < 64) ∨ (c = 12 ∧ ∃ v r, st = v :: r ∧ b01 v) ∨ (1 ≤ c ∧ c ≤ 9 ∧ ∃ b a r, st = b :: a :: r) ∨ ((c = 10 ∨ c = 11) ∧ ∃ b a r, st = b :: a :: r ∧ b01 a ∧ b01 b))
def Run (z : Int) (e : Int → Int) (s : Int) : List Int → List Int → Prop
  | [], _ => True
  | c :: w, st => okc z c st ∧ Run z e s w (ev1 e s c st)
theorem ev_app (e : Int → Int) (s : Int) : ∀ (w w' st : List Int), ev e s (w ++ w') st = ev e s w' (ev e s w st)
  | [], w', st => rfl
  | c :: w, w', st => ev_app e s w w' (ev1 e s c st)
theorem run_app (z : Int) (e : Int → Int) (s : Int) : ∀ (w w' st : List Int), Run z e s (w ++ w') st ↔ Run z e s w st ∧ Run z e s w' (ev e s w st)
  | [], w', st => ⟨fun h => ⟨trivial, h⟩, fun h => h.2⟩
  | c :: w, w', st => by
    have ih := run_app z e s w w' (ev1 e s c st)
    constructor
    · intro h
      obtain ⟨h1, h2⟩ := ih.mp h.2
      exact ⟨⟨h.1, h1⟩, h2⟩
    · intro h
      exact ⟨h.1.1, ih.mpr ⟨h.1.2, h.2⟩⟩
/-- w puts one value (a test's: 0 or 1) on any stack, d more at most meanwhile -/
def PW1 (z : Int) (B : Int → Prop) (d : Nat) (w : List Int) : Prop := ∀ (e : Int → Int) (s : Int) (st : List Int), (∀ k, bd (e k)) → (∀ v, v ∈ st → bd v) → st.length + d ≤ 64 → Run z e s w st ∧ ∃ v, ev e s w st = v :: st ∧ B v
def RW (z : Int) (B : Int → Prop) (d : Nat) (p : (Int × Bool) → List Int → RD) : Prop := ∀ q C r, p q C = .inl r → ∃ w, r.2 = w.reverse ++ C ∧ PW1 z B d w
theorem b01_bd {v : Int} (h : b01 v) : bd v := by unfold b01 at h; unfold bd; omega
theorem PW1.le {z : Int} {B : Int → Prop} {d d' : Nat} {w : List Int} (h : PW1 z B d w) (hd : d ≤ d') : PW1 z B d' w := fun e s st h1 h2 h3 => h e s st h1 h2 (by omega)
theorem clp_bd (v : Int) : bd (clp v) := by unfold bd clp; omega
theorem fdiv_bd {a b : Int} (ha : bd a) (hb : b ≠ 0) : bd (a.fdiv b) := by
  unfold bd at *
  have h1 : (a.fdiv b).natAbs ≤ 1000000 := by
    rcases Int.lt_or_gt_of_ne hb with c | c
    · have e : a.fdiv b = (-a).fdiv (-b) := (Int.neg_fdiv_neg a b).symm
      rw [e, Int.fdiv_eq_ediv_of_nonneg _ (by omega)]
      have h2 : -1000000 ≤ (-a) / (-b) := by
        have := Int.ediv_le_ediv (c := -b) (by omega) (show -1000000 ≤ -a by omega)
        have h3 : -1000000 ≤ (-1000000) / (-b) := by
          rw [Int.le_ediv_iff_mul_le (by omega)]
          have : (1000000 : Int) * 1 ≤ 1000000 * (-b) := Int.mul_le_mul_of_nonneg_left (by omega) (by decide)
          omega
        omega
      have h4 : (-a) / (-b) ≤ 1000000 := by
        have h5 : (-a) / (-b) ≤ 1000000 / (-b) := Int.ediv_le_ediv (by omega) (by omega)
        have h6 : 1000000 / (-b) ≤ 1000000 := Int.ediv_le_self _ (by decide)
        omega
      omega
    · rw [Int.fdiv_eq_ediv_of_nonneg _ (by omega)]
      have h2 : -1000000 ≤ a / b := by
        have := Int.ediv_le_ediv (c := b) (by omega) (show -1000000 ≤ a by omega)
        have h3 : -1000000 ≤ (-1000000) / b := by
          rw [Int.le_ediv_iff_mul_le (by omega)]
          have : (1000000 : Int) * 1 ≤ 1000000 * b := Int.mul_le_mul_of_nonneg_left (by omega) (by decide)
          omega
        omega
      have h4 : a / b ≤ 1000000 := by
        have h5 : a / b ≤ 1000000 / b := Int.ediv_le_ediv (by omega) (by omega)
        have h6 : 1000000 / b ≤ 1000000 := Int.ediv_le_self _ (by decide)
        omega
      omega
  omega
theorem jn_bd {c a b : Int} (hc : 1 ≤ c ∧ c ≤ 9) (ha : bd a) (hb : bd b) : bd (jn c a b) := by
  unfold jn
  by_cases c1 : c = 1
  · rw [if_pos c1]; exact clp_bd _
  rw [if_neg c1]
  by_cases c2 : c = 2
  · rw [if_pos c2]; exact clp_bd _
  rw [if_neg c2]
  by_cases c3 : c = 3
  · rw [if_pos c3]; exact clp_bd _
  rw [if_neg c3]
  by_cases c4 : c = 4
  · rw [if_pos c4]
    by_cases b0 : b = 0
    · rw [if_pos b0]; unfold bd; omega
    · rw [if_neg b0]; exact fdiv_bd ha b0
  rw [if_neg c4]
  unfold bd at *
  by_cases c5 : c = 5
  · rw [if_pos c5]; omega
  rw [if_neg c5]
  by_cases c6 : c = 6
  · rw [if_pos c6]; omega
  rw [if_neg c6]
  repeat' split
  all_goals omega
theorem jn_b01 {c a b : Int} (hc : 7 ≤ c ∧ c ≤ 9) : b01 (jn c a b) := by
  unfold jn b01
  rw [if_neg (by omega), if_neg (by omega), if_neg (by omega), if_neg (by omega), if_neg (by omega), if_neg (by omega)]
  by_cases c7 : c = 7
  · rw [if_pos c7]; split <;> omega
  rw [if_neg c7]
  by_cases c8 : c = 8
  · rw [if_pos c8]; split <;> omega
  rw [if_neg c8, if_pos (by omega)]; split <;> omega
theorem jn_l01 {c a b : Int} (hc : c = 10 ∨ c = 11) (ha : b01 a) (hb : b01 b) : b01 (jn c a b) := by
  unfold b01 at *
  unfold jn
  rw [if_neg (by omega), if_neg (by omega), if_neg (by omega), if_neg (by omega), if_neg (by omega), if_neg (by omega), if_neg (by omega), if_neg (by omega), if_neg (by omega)]
  rcases hc with hc | hc
  · rw [if_pos hc]
    rcases ha with rfl | rfl <;> rcases hb with rfl | rfl <;> decide
  · rw [if_neg (by omega)]; split <;> omega
theorem ev1_j {e : Int → Int} {s c a b : Int} {r : List Int} (hc : 1 ≤ c ∧ c ≤ 11) : ev1 e s c (b :: a :: r) = jn c a b :: r := by
  unfold ev1
  rw [if_neg (by omega), if_neg (by omega), if_neg (by omega), if_neg (by omega), if_neg (by omega)]
/-- two values joined -/
theorem PW1.join {z : Int} {B B1 B2 : Int → Prop} {d1 d2 d : Nat} {w1 w2 : List Int} {c : Int} (h1 : PW1 z B1 d1 w1) (h2 : PW1 z B2 d2 w2) (hd1 : d1 ≤ d) (hd2 : d2 + 1 ≤ d) (hb1 : ∀ v, B1 v → bd v) (hb2 : ∀ v, B2 v → bd v) (hc : (1 ≤ c ∧ c ≤ 9) ∨ ((c = 10 ∨ c = 11) ∧ (∀ v, B1 v → b01 v) ∧ ∀ v, B2 v → b01 v)) (hB : ∀ a b, B1 a → B2 b → B (jn c a b)) : PW1 z B d (w1 ++ (w2 ++ [c])) := fun e s st he hs hl => by
  obtain ⟨r1, v1, e1, b1⟩ := h1 e s st he hs (by omega)
  have hs' : ∀ v, v ∈ v1 :: st → bd v := fun v hv => by
    rcases List.mem_cons.mp hv with c | c
    · rw [c]; exact hb1 _ b1
    · exact hs v c
  obtain ⟨r2, v2, e2, b2⟩ := h2 e s (v1 :: st) he hs' (by simp only [List.length_cons]; omega)
  have hc11 : 1 ≤ c ∧ c ≤ 11 := by omega
  refine ⟨?_, jn c v1 v2, ?_, hB _ _ b1 b2⟩
  · rw [run_app, e1, run_app, e2]
    refine ⟨r1, r2, ⟨fun v hv => ?_, ?_⟩, trivial⟩
    · rcases List.mem_cons.mp hv with c | c
      · rw [c]; exact hb2 _ b2
      · exact hs' v c
    · rcases hc with hc | ⟨hc, k1, k2⟩
      · exact Or.inr (Or.inr (Or.inr (Or.inr (Or.inr (Or.inl ⟨hc.1, hc.2, v2, v1, st, rfl⟩)))))
      · exact Or.inr (Or.inr (Or.inr (Or.inr (Or.inr (Or.inr ⟨hc, v2, v1, st, rfl, k1 _ b1, k2 _ b2⟩)))))
  · rw [ev_app, e1, ev_app, e2]
    show ev1 e s c (v2 :: v1 :: st) = _
    exact ev1_j hc11
theorem PW1.one {z : Int} {B : Int → Prop} {c : Int} (hc : (1000 ≤ c ∧ c ≤ 10999) ∨ (40 ≤ c ∧ c ≤ 50 ∧ al z (c - 40)) ∨ c = 13) (hB : ∀ (e : Int → Int) s st, (∀ k, bd (e k)) → ∃ v, ev1 e s c st = v :: st ∧ B v) : PW1 z B 1 [c] := fun e s st he hs hl => by
  obtain ⟨v, e1, b1⟩ := hB e s st he
  refine ⟨⟨⟨hs, ?_⟩, trivial⟩, v, e1, b1⟩
  rcases hc with hc | hc | hc
  · exact Or.inl ⟨hc.1, hc.2, by omega⟩
  · exact Or.inr (Or.inr (Or.inl ⟨hc.1, hc.2.1, hc.2.2, by omega⟩))
  · exact Or.inr (Or.inr (Or.inr (Or.inl ⟨hc, by omega⟩)))
theorem PW1.after {z : Int} {B B1 : Int → Prop} {d : Nat} {w : List Int} {c : Int} (h : PW1 z B1 d w) (hb : ∀ v, B1 v → bd v) (hc : (c = 60 ∧ z = 2) ∨ (c = 12 ∧ ∀ v, B1 v → b01 v)) (hB : ∀ (e : Int → Int) s v st, B1 v → ∃ v', ev1 e s c (v :: st) = v' :: st ∧ B v') : PW1 z B d (w ++ [c]) := fun e s st he hs hl => by
  obtain ⟨r1, v1, e1, b1⟩ := h e s st he hs hl
  obtain ⟨v', e2, b2⟩ := hB e s v1 st b1
  refine ⟨?_, v', ?_, b2⟩
  · rw [run_app, e1]
    refine ⟨r1, ⟨fun v hv => ?_, ?_⟩, trivial⟩
    · rcases List.mem_cons.mp hv with c | c
      · rw [c]; exact hb _ b1
      · exact hs v c
    · rcases hc with hc | ⟨hc, k⟩
      · exact Or.inr (Or.inl ⟨hc.1, hc.2, by simp only [List.length_cons]; omega⟩)
      · exact Or.inr (Or.inr (Or.inr (Or.inr (Or.inl ⟨hc, v1, st, rfl, k _ b1⟩))))
  · rw [ev_app, e1]; exact e2
/-! the formulas as told have such codes -/
theorem loopR_w {t : Int → Int} {tk n c1 o1 c2 o2 : Int} {d : Nat} {p : (Int × Bool) → List Int → RD} (hp : RW tk bd d p) (ho1 : 1 ≤ o1 ∧ o1 ≤ 4) (ho2 : 1 ≤ o2 ∧ o2 ≤ 4) : ∀ (k : Nat) (q : Int × Bool) (C0 w0 : List Int) (r : (Int × Bool) × List Int), PW1 tk bd (d + 1) w0 → loopR t n p c1 o1 c2 o2 k q (w0.reverse ++ C0) = .inl r → ∃ w, r.2 = w.reverse ++ C0 ∧ PW1 tk bd (d + 1) w
  | 0, q, C0, w0, r, h0, h => by cases h; exact ⟨w0, rfl, h0⟩
  | k + 1, q, C0, w0, r, h0, h => by
    unfold loopR at h
    by_cases g : nxt t n (.inl q) = c1 ∨ nxt t n (.inl q) = c2
    · rw [if_pos g] at h
      cases hx : p (skp t n q.1 + 1, false) (w0.reverse ++ C0) with
      | inr f => rw [hx] at h; cases h
      | inl r1 =>
        rw [hx] at h
        simp only at h
        obtain ⟨w1, e1, p1⟩ := hp _ _ _ hx
        have ho : 1 ≤ (if nxt t n (.inl q) = c1 then o1 else o2) ∧ (if nxt t n (.inl q) = c1 then o1 else o2) ≤ 4 := by split <;> omega
        generalize (if nxt t n (.inl q) = c1 then o1 else o2) = op at h ho
        have ew : op :: r1.2 = (w0 ++ (w1 ++ [op])).reverse ++ C0 := by rw [e1]; simp
        rw [ew] at h
        exact loopR_w hp ho1 ho2 k _ C0 _ r (h0.join p1 (Nat.le_refl _) (Nat.le_refl _) (fun v h => h) (fun v h => h) (Or.inl ⟨by omega, by omega⟩) (fun a b ha hb => jn_bd ⟨by omega, by omega⟩ ha hb)) h
    · rw [if_neg g] at h; cases h; exact ⟨w0, rfl, h0⟩
theorem prodR_w {t : Int → Int} {tk n : Int} {K d : Nat} {p : (Int × Bool) → List Int → RD} (hp : RW tk bd d p) : RW tk bd (d + 1) (prodR t n K p) := fun q C r h => by
  unfold prodR at h
  cases hx : p q C with
  | inr f => rw [hx] at h; cases h
  | inl r1 =>
    rw [hx] at h
    simp only at h
    obtain ⟨w1, e1, p1⟩ := hp _ _ _ hx
    rw [e1] at h
    exact loopR_w hp (by decide) (by decide) K _ C w1 r (p1.le (by omega)) h
theorem sumR_w {t : Int → Int} {tk n : Int} {K d : Nat} {p : (Int × Bool) → List Int → RD} (hp : RW tk bd d p) : RW tk bd (d + 2) (sumR t n K p) := fun q C r h => by
  unfold sumR at h
  cases hx : prodR t n K p q C with
  | inr f => rw [hx] at h; cases h
  | inl r1 =>
    rw [hx] at h
    simp only at h
    obtain ⟨w1, e1, p1⟩ := prodR_w hp _ _ _ hx
    rw [e1] at h
    exact loopR_w (prodR_w hp) (by decide) (by decide) K _ C w1 r (p1.le (by omega)) h
theorem opY_w {t : Int → Int} {n tk : Int} : RW tk bd 1 (opY t n tk) := fun q C r h => by
  unfold opY at h
  by_cases g : wOf tk 0 11 (tw t n (.inl q)) ≠ -1
  · rw [if_pos g] at h
    cases h
    have hw := wOf_wk g
    refine ⟨[40 + wOf tk 0 11 (tw t n (.inl q))], rfl, PW1.one (Or.inr (Or.inl ⟨by omega, by omega, by rw [show 40 + wOf tk 0 11 (tw t n (.inl q)) - 40 = wk (tw t n (.inl q)) by omega]; exact hw.2.2.2⟩)) (fun e s st he => ⟨_, ?_, he (wOf tk 0 11 (tw t n (.inl q)))⟩)⟩
    unfold ev1
    rw [if_neg (by omega), if_neg (by omega), if_pos (by omega), show 40 + wOf tk 0 11 (tw t n (.inl q)) - 40 = wOf tk 0 11 (tw t n (.inl q)) by omega]
  · rw [if_neg g] at h
    cases hn : numS t n 0 9999 (.inl q) with
    | inr f => rw [hn] at h; cases h
    | inl q' =>
      rw [hn] at h
      cases h
      have hl := num_lt hn
      refine ⟨[1000 + valN t n q], rfl, PW1.one (Or.inl ⟨by omega, by omega⟩) (fun e s st he => ⟨valN t n q, ?_, by unfold bd; omega⟩)⟩
      unfold ev1
      rw [if_pos (by omega), show 1000 + valN t n q - 1000 = valN t n q by omega]
theorem partB_w {t : Int → Int} {n tk : Int} {ok : Bool} {d : Nat} {S P : (Int × Bool) → List Int → RD} (hd : 1 ≤ d) (hS : ok = true → ∃ d', d' + 1 ≤ d ∧ RW tk bd d' S) (hP : ok = true → RW tk bd d P) : RW tk bd d (partB t n tk ok S P) := fun q C r h => by
  unfold partB at h
  by_cases g1 : nxt t n (.inl q) = 40
  · rw [if_pos g1] at h
    cases ok with
    | false => rw [if_neg (by decide)] at h; cases h
    | true =>
      rw [if_pos rfl] at h
      obtain ⟨d', hd', hS⟩ := hS rfl
      cases hx : S (skp t n q.1 + 1, false) C with
      | inr f => rw [hx] at h; cases h
      | inl r1 =>
        rw [hx] at h
        simp only at h
        obtain ⟨w1, e1, p1⟩ := hS _ _ _ hx
        by_cases g2 : nxt t n (.inl r1.1) = 41
        · rw [if_pos g2] at h; cases h; exact ⟨w1, e1, p1.le (by omega)⟩
        · rw [if_neg g2] at h; cases h
  · rw [if_neg g1] at h
    by_cases g2 : tw t n (.inl q) = 191594322 ∨ tw t n (.inl q) = 187539624
    · rw [if_pos g2] at h
      by_cases g3 : nxt t n (.inl (run isL t n (skp t n q.1), true)) = 40
      · rw [if_pos g3] at h
        cases ok with
        | false => rw [if_neg (by decide)] at h; cases h
        | true =>
          rw [if_pos rfl] at h
          obtain ⟨d', hd', hS⟩ := hS rfl
          cases hx : S (skp t n (run isL t n (skp t n q.1)) + 1, false) C with
          | inr f => rw [hx] at h; cases h
          | inl r1 =>
            rw [hx] at h
            simp only at h
            obtain ⟨w1, e1, p1⟩ := hS _ _ _ hx
            by_cases g4 : nxt t n (.inl r1.1) = 44
            · rw [if_pos g4] at h
              cases hx2 : S (skp t n r1.1.1 + 1, false) r1.2 with
              | inr f => rw [hx2] at h; cases h
              | inl r2 =>
                rw [hx2] at h
                simp only at h
                obtain ⟨w2, e2, p2⟩ := hS _ _ _ hx2
                by_cases g5 : nxt t n (.inl r2.1) = 41
                · rw [if_pos g5] at h
                  cases h
                  have ho : 5 ≤ (if tw t n (.inl q) = 191594322 then (5 : Int) else 6) ∧ (if tw t n (.inl q) = 191594322 then (5 : Int) else 6) ≤ 6 := by split <;> omega
                  generalize (if tw t n (.inl q) = 191594322 then (5 : Int) else 6) = op at ho
                  exact ⟨w1 ++ (w2 ++ [op]), by rw [e2, e1]; simp, p1.join p2 (by omega) hd' (fun v h => h) (fun v h => h) (Or.inl ⟨by omega, by omega⟩) (fun a b ha hb => jn_bd ⟨by omega, by omega⟩ ha hb)⟩
                · rw [if_neg g5] at h; cases h
            · rw [if_neg g4] at h; cases h
      · rw [if_neg g3] at h; cases h
    · rw [if_neg g2] at h
      by_cases g3 : tk = 2 ∧ tw t n (.inl q) = 281319642
      · rw [if_pos g3] at h
        cases ok with
        | false => rw [if_neg (by decide)] at h; cases h
        | true =>
          rw [if_pos rfl] at h
          cases hx : P (run isL t n (skp t n q.1), true) C with
          | inr f => rw [hx] at h; cases h
          | inl r1 =>
            rw [hx] at h
            cases h
            obtain ⟨w1, e1, p1⟩ := hP rfl _ _ _ hx
            refine ⟨w1 ++ [60], by rw [e1]; simp, p1.after (fun v h => h) (Or.inl ⟨rfl, g3.1⟩) (fun e s v st hv => ⟨if v = s then 1 else 0, ?_, by unfold bd; split <;> omega⟩)⟩
            unfold ev1
            rw [if_neg (by decide), if_pos (by decide)]
      · rw [if_neg g3] at h
        obtain ⟨w, e, p⟩ := opY_w _ _ _ h
        exact ⟨w, e, p.le hd⟩
theorem partR_w {t : Int → Int} {n tk : Int} {K : Nat} : ∀ b : Nat, RW tk bd (3 * b + 1) (partR t n tk K b)
  | 0 => partB_w (by decide) (fun c => by cases c) (fun c => by cases c)
  | b + 1 => by
    have ih := partR_w (t := t) (n := n) (tk := tk) (K := K) b
    refine partB_w (by omega) (fun _ => ⟨3 * b + 1 + 2, by omega, sumR_w ih⟩) (fun _ q C r h => ?_)
    obtain ⟨w, e, p⟩ := ih q C r h
    exact ⟨w, e, p.le (by omega)⟩
theorem loopW_w {t : Int → Int} {tk n c w : Int} {d : Nat} {p : (Int × Bool) → List Int → RD} (hp : RW tk b01 d p) (hw : w = 10 ∨ w = 11) : ∀ (k : Nat) (q : Int × Bool) (C0 w0 : List Int) (r : (Int × Bool) × List Int), PW1 tk b01 (d + 1) w0 → loopW t n p c w k q (w0.reverse ++ C0) = .inl r → ∃ w, r.2 = w.reverse ++ C0 ∧ PW1 tk b01 (d + 1) w
  | 0, q, C0, w0, r, h0, h => by cases h; exact ⟨w0, rfl, h0⟩
  | k + 1, q, C0, w0, r, h0, h => by
    unfold loopW at h
    by_cases g : tw t n (.inl q) = c
    · rw [if_pos g] at h
      cases hx : p (run isL t n (skp t n q.1), true) (w0.reverse ++ C0) with
      | inr f => rw [hx] at h; cases h
      | inl r1 =>
        rw [hx] at h
        simp only at h
        obtain ⟨w1, e1, p1⟩ := hp _ _ _ hx
        have ew : w :: r1.2 = (w0 ++ (w1 ++ [w])).reverse ++ C0 := by rw [e1]; simp
        rw [ew] at h
        exact loopW_w hp hw k _ C0 _ r (h0.join p1 (Nat.le_refl _) (Nat.le_refl _) (fun v h => b01_bd h) (fun v h => b01_bd h) (Or.inr ⟨hw, fun v h => h, fun v h => h⟩) (fun a b ha hb => jn_l01 hw ha hb)) h
    · rw [if_neg g] at h; cases h; exact ⟨w0, rfl, h0⟩
theorem bothR_w {t : Int → Int} {tk n : Int} {K d : Nat} {p : (Int × Bool) → List Int → RD} (hp : RW tk b01 d p) : RW tk b01 (d + 1) (bothR t n K p) := fun q C r h => by
  unfold bothR at h
  cases hx : p q C with
  | inr f => rw [hx] at h; cases h
  | inl r1 =>
    rw [hx] at h
    simp only at h
    obtain ⟨w1, e1, p1⟩ := hp _ _ _ hx
    rw [e1] at h
    exact loopW_w hp (Or.inl rfl) K _ C w1 r (p1.le (by omega)) h
theorem tstR_w {t : Int → Int} {tk n : Int} {K d : Nat} {p : (Int × Bool) → List Int → RD} (hp : RW tk b01 d p) : RW tk b01 (d + 2) (tstR t n K p) := fun q C r h => by
  unfold tstR at h
  cases hx : bothR t n K p q C with
  | inr f => rw [hx] at h; cases h
  | inl r1 =>
    rw [hx] at h
    simp only at h
    obtain ⟨w1, e1, p1⟩ := bothR_w hp _ _ _ hx
    rw [e1] at h
    exact loopW_w (bothR_w hp) (Or.inr rfl) K _ C w1 r (p1.le (by omega)) h
theorem factB_w {t : Int → Int} {tk n : Int} {ok : Bool} {d d' : Nat} {S T F : (Int × Bool) → List Int → RD} (hd : d' + 1 ≤ d) (hS : RW tk bd d' S) (hT : ok = true → RW tk b01 d T) (hF : ok = true → RW tk b01 d F) : RW tk b01 d (factB t n ok S T F) := fun q C r h => by
  unfold factB at h
  by_cases g1 : nxt t n (.inl q) = 91
  · rw [if_pos g1] at h
    cases ok with
    | false => rw [if_neg (by decide)] at h; cases h
    | true =>
      rw [if_pos rfl] at h
      cases hx : T (skp t n q.1 + 1, false) C with
      | inr f => rw [hx] at h; cases h
      | inl r1 =>
        rw [hx] at h
        simp only at h
        obtain ⟨w1, e1, p1⟩ := hT rfl _ _ _ hx
        by_cases g2 : nxt t n (.inl r1.1) = 93
        · rw [if_pos g2] at h; cases h; exact ⟨w1, e1, p1⟩
        · rw [if_neg g2] at h; cases h
  · rw [if_neg g1] at h
    by_cases g2 : tw t n (.inl q) = 209249973
    · rw [if_pos g2] at h
      cases ok with
      | false => rw [if_neg (by decide)] at h; cases h
      | true =>
        rw [if_pos rfl] at h
        cases hx : F (run isL t n (skp t n q.1), true) C with
        | inr f => rw [hx] at h; cases h
        | inl r1 =>
          rw [hx] at h
          cases h
          obtain ⟨w1, e1, p1⟩ := hF rfl _ _ _ hx
          refine ⟨w1 ++ [12], by rw [e1]; simp, p1.after (fun v h => b01_bd h) (Or.inr ⟨rfl, fun v h => h⟩) (fun e s v st hv => ⟨1 - v, ?_, by unfold b01 at *; omega⟩)⟩
          unfold ev1
          rw [if_neg (by decide), if_neg (by decide), if_neg (by decide), if_neg (by decide), if_pos rfl]
    · rw [if_neg g2] at h
      by_cases g3 : tw t n (.inl q) = 20962395
      · rw [if_pos g3] at h
        cases h
        refine ⟨[13], rfl, PW1.le (PW1.one (Or.inr (Or.inr rfl)) (fun e s st he => ⟨1, ?_, Or.inr rfl⟩)) (by omega)⟩
        unfold ev1
        rw [if_neg (by decide), if_neg (by decide), if_neg (by decide), if_pos rfl]
      · rw [if_neg g3] at h
        cases hx : S q C with
        | inr f => rw [hx] at h; cases h
        | inl r1 =>
          rw [hx] at h
          simp only at h
          obtain ⟨w1, e1, p1⟩ := hS _ _ _ hx
          by_cases g4 : nxt t n (.inl r1.1) = 60 ∨ nxt t n (.inl r1.1) = 62 ∨ nxt t n (.inl r1.1) = 61
          · rw [if_pos g4] at h
            cases hx2 : S (skp t n r1.1.1 + 1, false) r1.2 with
            | inr f => rw [hx2] at h; cases h
            | inl r2 =>
              rw [hx2] at h
              cases h
              obtain ⟨w2, e2, p2⟩ := hS _ _ _ hx2
              have ho : 7 ≤ (if nxt t n (.inl r1.1) = 60 then (7 : Int) else if nxt t n (.inl r1.1) = 62 then 8 else 9) ∧ (if nxt t n (.inl r1.1) = 60 then (7 : Int) else if nxt t n (.inl r1.1) = 62 then 8 else 9) ≤ 9 := by
                repeat' split
                all_goals omega
              generalize (if nxt t n (.inl r1.1) = 60 then (7 : Int) else if nxt t n (.inl r1.1) = 62 then 8 else 9) = op at ho
              exact ⟨w1 ++ (w2 ++ [op]), by rw [e2, e1]; simp, p1.join p2 (by omega) hd (fun v h => h) (fun v h => h) (Or.inl ⟨by omega, by omega⟩) (fun a b ha hb => jn_b01 ⟨by omega, by omega⟩)⟩
          · rw [if_neg g4] at h; cases h
theorem factR_w {t : Int → Int} {n tk : Int} {K : Nat} : ∀ b : Nat, RW tk b01 (3 * b + 4) (factR t n tk K b)
  | 0 => factB_w (d' := 3) (by decide) (sumR_w (partR_w 0)) (fun c => by cases c) (fun c => by cases c)
  | b + 1 => by
    have ih := factR_w (t := t) (n := n) (tk := tk) (K := K) b
    have hS := sumR_w (t := t) (n := n) (K := K) (partR_w (t := t) (n := n) (tk := tk) (K := K) (b + 1))
    refine factB_w (d' := 3 * (b + 1) + 1 + 2) (by omega) hS (fun _ q C r h => ?_) (fun _ q C r h => ?_)
    · obtain ⟨w, e, p⟩ := tstR_w ih q C r h
      exact ⟨w, e, p.le (by omega)⟩
    · obtain ⟨w, e, p⟩ := ih q C r h
      exact ⟨w, e, p.le (by omega)⟩
theorem sumF_w {t : Int → Int} {n tk : Int} {K : Nat} {q : Int × Bool} {r : (Int × Bool) × List Int} (h : sumF t n tk K q = .inl r) : PW1 tk bd 64 r.2.reverse := by
  obtain ⟨w, e, p⟩ := sumR_w (partR_w 6) _ _ _ h
  rw [e, List.append_nil, List.reverse_reverse]
  exact p.le (by decide)
theorem tstF_w {t : Int → Int} {n tk : Int} {K : Nat} {q : Int × Bool} {r : (Int × Bool) × List Int} (h : tstF t n tk K q = .inl r) : PW1 tk b01 64 r.2.reverse := by
  obtain ⟨w, e, p⟩ := tstR_w (factR_w 6) _ _ _ h
  rw [e, List.append_nil, List.reverse_reverse]
  exact p.le (by decide)
