/-! ===== text: blanks, letters, digits ===== -/
def skpF (t : Int → Int) (n : Int) : Nat → Int → Int
  | 0, p => p
  | k + 1, p => if p < n ∧ (t p = 10 ∨ t p = 32) then skpF t n k (p + 1) else p
/-- behind the blanks -/
def skp (t : Int → Int) (n p : Int) : Int := skpF t n (n - p).toNat p
theorem skpF_big (t : Int → Int) (n : Int) : ∀ (k : Nat) (p : Int), (n - p).toNat ≤ k → skpF t n k p = skpF t n (n - p).toNat p
  | 0, p, h => by rw [show (n - p).toNat = 0 by omega]
  | k + 1, p, h => by
    by_cases hp : p < n
    · obtain ⟨j, hj⟩ : ∃ j, (n - p).toNat = j + 1 := ⟨(n - p).toNat - 1, by omega⟩
      rw [hj]
      unfold skpF
      by_cases hc : p < n ∧ (t p = 10 ∨ t p = 32)
      · rw [if_pos hc, if_pos hc, skpF_big t n k (p + 1) (by omega), show j = (n - (p + 1)).toNat by omega]
      · rw [if_neg hc, if_neg hc]
    · rw [show (n - p).toNat = 0 by omega]
      unfold skpF
      rw [if_neg (fun h => hp h.1)]
theorem skp_y {t : Int → Int} {n p : Int} (h : p < n) (hc : t p = 10 ∨ t p = 32) : skp t n p = skp t n (p + 1) := by
  unfold skp
  obtain ⟨j, hj⟩ : ∃ j, (n - p).toNat = j + 1 := ⟨(n - p).toNat - 1, by omega⟩
  rw [hj]
  show (if _ then _ else _) = _
  rw [if_pos ⟨h, hc⟩, show j = (n - (p + 1)).toNat by omega]
theorem skp_n {t : Int → Int} {n p : Int} (h : ¬ (p < n ∧ (t p = 10 ∨ t p = 32))) : skp t n p = p := by
  unfold skp
  generalize (n - p).toNat = j
  cases j with
  | zero => rfl
  | succ j => show (if _ then _ else _) = _; rw [if_neg h]
theorem skp_ind {t : Int → Int} {n : Int} (P : Int → Prop) (h0 : ∀ p, ¬ (p < n ∧ (t p = 10 ∨ t p = 32)) → P p) (h1 : ∀ p, p < n → (t p = 10 ∨ t p = 32) → P (p + 1) → P p) : ∀ p, P p := by
  have key : ∀ (k : Nat) (p : Int), (n - p).toNat ≤ k → P p := by
    intro k
    induction k with
    | zero => intro p h; exact h0 p (fun h => by omega)
    | succ k ih =>
      intro p h
      by_cases hc : p < n ∧ (t p = 10 ∨ t p = 32)
      · exact h1 p hc.1 hc.2 (ih (p + 1) (by omega))
      · exact h0 p hc
  exact fun p => key _ p (Nat.le_refl _)
theorem skp_ge (t : Int → Int) (n p : Int) : p ≤ skp t n p := by
  refine skp_ind (t := t) (n := n) (fun p => p ≤ skp t n p) (fun p h => by rw [skp_n h]; omega) (fun p h1 h2 ih => by rw [skp_y h1 h2]; omega) p
theorem skp_le {t : Int → Int} {n p : Int} (h : p ≤ n) : skp t n p ≤ n := by
  refine skp_ind (t := t) (n := n) (fun p => p ≤ n → skp t n p ≤ n) (fun p h g => by rw [skp_n h]; exact g) (fun p h1 h2 ih g => by rw [skp_y h1 h2]; exact ih (by omega)) p h
theorem skp_end {t : Int → Int} {n p : Int} : ¬ (skp t n p < n ∧ (t (skp t n p) = 10 ∨ t (skp t n p) = 32)) := by
  refine skp_ind (t := t) (n := n) (fun p => ¬ (skp t n p < n ∧ (t (skp t n p) = 10 ∨ t (skp t n p) = 32))) (fun p h => by rw [skp_n h]; exact h) (fun p h1 h2 ih => by rw [skp_y h1 h2]; exact ih) p
theorem skp_skp (t : Int → Int) (n p : Int) : skp t n (skp t n p) = skp t n p := skp_n skp_end
/-- what look() answers at a -/
def lkv (t : Int → Int) (n a : Int) : Int := if a < n then t a else -1
/-- the end of a run -/
def runF (f : Int → Bool) (t : Int → Int) (n : Int) : Nat → Int → Int
  | 0, p => p
  | k + 1, p => if p < n ∧ f (t p) = true then runF f t n k (p + 1) else p
def run (f : Int → Bool) (t : Int → Int) (n p : Int) : Int := runF f t n (n - p).toNat p
theorem run_y {f : Int → Bool} {t : Int → Int} {n p : Int} (h : p < n) (hc : f (t p) = true) : run f t n p = run f t n (p + 1) := by
  unfold run
  obtain ⟨j, hj⟩ : ∃ j, (n - p).toNat = j + 1 := ⟨(n - p).toNat - 1, by omega⟩
  rw [hj]
  show (if _ then _ else _) = _
  rw [if_pos ⟨h, hc⟩, show j = (n - (p + 1)).toNat by omega]
theorem run_n {f : Int → Bool} {t : Int → Int} {n p : Int} (h : ¬ (p < n ∧ f (t p) = true)) : run f t n p = p := by
  unfold run
  generalize (n - p).toNat = j
  cases j with
  | zero => rfl
  | succ j => show (if _ then _ else _) = _; rw [if_neg h]
theorem run_ind {f : Int → Bool} {t : Int → Int} {n : Int} (P : Int → Prop) (h0 : ∀ p, ¬ (p < n ∧ f (t p) = true) → P p) (h1 : ∀ p, p < n → f (t p) = true → P (p + 1) → P p) : ∀ p, P p := by
  have key : ∀ (k : Nat) (p : Int), (n - p).toNat ≤ k → P p := by
    intro k
    induction k with
    | zero => intro p h; exact h0 p (fun h => by omega)
    | succ k ih =>
      intro p h
      by_cases hc : p < n ∧ f (t p) = true
      · exact h1 p hc.1 hc.2 (ih (p + 1) (by omega))
      · exact h0 p hc
  exact fun p => key _ p (Nat.le_refl _)
theorem run_ge (f : Int → Bool) (t : Int → Int) (n p : Int) : p ≤ run f t n p := by
  refine run_ind (f := f) (t := t) (n := n) (fun p => p ≤ run f t n p) (fun p h => by rw [run_n h]; omega) (fun p h1 h2 ih => by rw [run_y h1 h2]; omega) p
theorem run_le {f : Int → Bool} {t : Int → Int} {n p : Int} (h : p ≤ n) : run f t n p ≤ n := by
  refine run_ind (f := f) (t := t) (n := n) (fun p => p ≤ n → run f t n p ≤ n) (fun p h g => by rw [run_n h]; exact g) (fun p h1 h2 ih g => by rw [run_y h1 h2]; exact ih (by omega)) p h
theorem run_end {f : Int → Bool} {t : Int → Int} {n p : Int} : ¬ (run f t n p < n ∧ f (t (run f t n p)) = true) := by
  refine run_ind (f := f) (t := t) (n := n) (fun p => ¬ (run f t n p < n ∧ f (t (run f t n p)) = true)) (fun p h => by rw [run_n h]; exact h) (fun p h1 h2 ih => by rw [run_y h1 h2]; exact ih) p
theorem run_in {f : Int → Bool} {t : Int → Int} {n p j : Int} (h0 : p ≤ j) (h1 : j < run f t n p) : j < n ∧ f (t j) = true := by
  have key := run_ind (f := f) (t := t) (n := n) (fun p => p ≤ j → j < run f t n p → j < n ∧ f (t j) = true) (fun p h a b => by rw [run_n h] at b; omega) (fun p h1 h2 ih a b => by
    by_cases e : p = j
    · rw [← e]; exact ⟨h1, h2⟩
    · rw [run_y h1 h2] at b; exact ih (by omega) b) p
  exact key h0 h1
def isL (c : Int) : Bool := decide (97 ≤ c ∧ c ≤ 122)
def isD (c : Int) : Bool := decide (48 ≤ c ∧ c ≤ 57)
theorem isL_iff {c : Int} : isL c = true ↔ 97 ≤ c ∧ c ≤ 122 := by simp [isL]
theorem isD_iff {c : Int} : isD c = true ↔ 48 ≤ c ∧ c ≤ 57 := by simp [isD]
/-- the model while it reads: the text t of length n -/
def PT (t : Int → Int) (n : Int) (I : PF) : Prop := I 307 = t ∧ I 306 3 = n ∧ 0 ≤ n ∧ n ≤ 1600 ∧ (∀ j, 0 ≤ j → j < 1600 → 0 ≤ t j ∧ t j ≤ 255) ∧ 0 ≤ I 306 2 ∧ I 306 2 ≤ n ∧ inR (I 306 4) ∧ (inR (I 306 5) ∧ (I 306 5 = 0 → I 306 6 = -1))
theorem PT.at {t : Int → Int} {n a : Int} {I : PF} (h : PT t n I) (h0 : 0 ≤ a) (h1 : a ≤ n) : PT t n (u2 I 306 2 a) := by
  obtain ⟨a1, a2, a3, a4, a5, a6, a7, a8, a9⟩ := h
  exact ⟨by rw [u2_row (by decide)]; exact a1, by rw [u2_j (by decide)]; exact a2, a3, a4, a5, by rw [u2_at]; exact h0, by rw [u2_at]; exact h1, by rw [u2_j (by decide)]; exact a8, by rw [u2_j (show (5 : Int) ≠ 2 by decide), u2_j (show (6 : Int) ≠ 2 by decide)]; exact a9⟩
theorem look_loop {X : CX} {d : Nat} {R : PF} {Q : PV → PF → PF → Prop} (hs : Shp R) : ∀ (k : Nat) (I : PF), (I 306 3 - I 306 2).toNat < k → 0 ≤ I 306 2 → I 306 2 ≤ I 306 3 → I 306 3 ≤ 1600 → (∀ j, 0 ≤ j → j < 1600 → 0 ≤ I 307 j ∧ I 307 j ≤ 255) →
    PN X d mX11_look 52 [(2, 306)] [] (u2 I 306 2 (skp (I 307) (I 306 3) (I 306 2))) R Q → PN X d mX11_look 0 [(2, 306)] [] I R Q := by
  intro k
  induction k with
  | zero => intro I h; exact absurd h (Nat.not_lt_zero _)
  | succ k ih =>
    intro I h h0 h1 h2 hT hk
    refine S_X11_look_0 (by omega) (by omega) (fun g => ?_) (fun g => ?_)
    · have e : skp (I 307) (I 306 3) (I 306 2) = I 306 2 := skp_n (by omega)
      rw [e, u2_self] at hk
      exact hk
    · have h7 := hT (I 306 2) (by omega) (by omega)
      have back : (I 307 (I 306 2) = 10 ∨ I 307 (I 306 2) = 32) → PN X d mX11_look 39 [(2, 306)] [] I R Q := fun hc => by
        refine S_X11_look_39 (ih _ ?_ ?_ ?_ ?_ ?_ ?_)
        · simp [u2] <;> omega
        · simp [u2] <;> omega
        · simp [u2] <;> omega
        · simp [u2] <;> omega
        · rw [u2_row (by decide)]; exact hT
        · rw [u2_row (by decide), u2_j (by decide), u2_at, u2_u2, ← skp_y g hc]; exact hk
      refine S_X11_look_11 hs (by omega) (by omega) (fun g2 => back (Or.inl g2)) (fun g2 => ?_)
      refine S_X11_look_25 hs (by omega) (by omega) (fun g3 => ?_) (fun g3 => back (Or.inr g3))
      have e : skp (I 307) (I 306 3) (I 306 2) = I 306 2 := skp_n (by omega)
      rw [e, u2_self] at hk
      exact hk
theorem c_look {X : CX} {I R : PF} {t : Int → Int} {n : Int} (hs : Shp R) (hp : PT t n I) : CN X 1 mX11_look [(2, 306)] I R (fun v I' R' => v.2 = lkv t n (skp t n (I 306 2)) ∧ I' = u2 I 306 2 (skp t n (I 306 2)) ∧ R' = R) := by
  obtain ⟨rfl, rfl, h3, h4, h5, h6, h7, h8, h9⟩ := hp
  refine callee_b (by decide +kernel) (Nat.le_of_ble_eq_true rfl) rfl ?_
  refine look_loop hs _ I (Nat.lt_succ_self _) h6 h7 h4 h5 ?_
  have a1 := skp_ge (I 307) (I 306 3) (I 306 2)
  have a2 := skp_le (t := I 307) h7
  generalize skp (I 307) (I 306 3) (I 306 2) = a at a1 a2 ⊢
  refine S_X11_look_52 (by rw [u2_at]; omega) (by rw [u2_j (by decide)]; omega) (fun g => ?_) (fun g => ?_)
  · rw [u2_at, u2_j (by decide)] at g
    refine S_X11_look_75 (S_X11_look_76 ⟨?_, rfl, rfl⟩)
    show (-1 : Int) = lkv _ _ _
    unfold lkv
    rw [if_neg (by omega)]
  · rw [u2_at, u2_j (by decide)] at g
    refine S_X11_look_63 hs (by rw [u2_at]; omega) (S_X11_look_76 ⟨?_, rfl, rfl⟩)
    show u2 I 306 2 a 307 (u2 I 306 2 a 306 2) = lkv _ _ _
    rw [u2_row (by decide), u2_at]
    unfold lkv
    rw [if_pos g]
