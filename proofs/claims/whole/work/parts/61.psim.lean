/-! ===== the machine and the formulas as told: parts, products, sums ===== -/
def HB (U : List Int) : Prop := ∀ v r, U = v :: r → 20 ≤ v ∧ v ≤ 24
theorem HB_nil : HB [] := fun v r h => by cases h
theorem HB_cons {v : Int} {U : List Int} (h : 20 ≤ v ∧ v ≤ 24) : HB (v :: U) := fun v' r' e => by cases e; exact h
abbrev tt1 : Int → Bool := fun _ => true
theorem dwU_app (p : Int → Bool) : ∀ (T W : List Int), (∀ v, v ∈ T → p v = true) → dwU p (T ++ W) = dwU p W
  | [], W, _ => rfl
  | v :: T, W, h => by
    show (if p v = true then dwU p (T ++ W) else v :: (T ++ W)) = _
    rw [if_pos (h v List.mem_cons_self)]
    exact dwU_app p T W (fun u hu => h u (List.mem_cons_of_mem _ hu))
theorem dwC_app (p : Int → Bool) : ∀ (T W C : List Int), (∀ v, v ∈ T → p v = true) → dwC p (T ++ W) C = dwC p W (dwC tt1 T C)
  | [], W, C, _ => rfl
  | v :: T, W, C, h => by
    show (if p v = true then dwC p (T ++ W) (v :: C) else C) = dwC p W (if tt1 v = true then dwC tt1 T (v :: C) else C)
    rw [if_pos (h v List.mem_cons_self), if_pos rfl]
    exact dwC_app p T W (v :: C) (fun u hu => h u (List.mem_cons_of_mem _ hu))
theorem dw_hb {p : Int → Bool} {U : List Int} (h : HB U) (hp : ∀ v, 20 ≤ v → p v = false) (C : List Int) : dwU p U = U ∧ dwC p U C = C := by
  cases U with
  | nil => exact ⟨rfl, rfl⟩
  | cons v r =>
    have h1 := hp v (h v r rfl).1
    have h2 : ¬ p v = true := fun c => by rw [h1] at c; cases c
    exact ⟨if_neg h2, if_neg h2⟩
theorem p34_hb (v : Int) (h : 20 ≤ v) : p34 v = false := decide_eq_false (fun c => by omega)
theorem p14_hb (v : Int) (h : 20 ≤ v) : p14 v = false := decide_eq_false (fun c => by omega)
theorem ep_id {W : List Int} (h : ∀ v r, W = v :: r → v < 60) (C : List Int) : epU W = W ∧ epC W C = C ∧ epN W = 0 := by
  cases W with
  | nil => exact ⟨rfl, rfl, rfl⟩
  | cons v r =>
    have h2 : ¬ 60 ≤ v := by have := h v r rfl; omega
    exact ⟨if_neg h2, if_neg h2, if_neg h2⟩
theorem brk_app : ∀ (T W : List Int), (∀ v, v ∈ T → p14 v = true) → brk (T ++ W) = brk W
  | [], W, _ => rfl
  | v :: T, W, h => by
    have h1 := of_decide_eq_true (h v List.mem_cons_self)
    show (if 20 ≤ v ∧ v ≤ 24 then v else brk (T ++ W)) = _
    rw [if_neg (by omega)]
    exact brk_app T W (fun u hu => h u (List.mem_cons_of_mem _ hu))
theorem dtb_app : ∀ (T W C : List Int), (∀ v, v ∈ T → p14 v = true) → dtbU (T ++ W) = dtbU W ∧ dtbC (T ++ W) C = dtbC W (dwC tt1 T C)
  | [], W, C, _ => ⟨rfl, rfl⟩
  | v :: T, W, C, h => by
    have h1 := of_decide_eq_true (h v List.mem_cons_self)
    have ih := dtb_app T W (v :: C) (fun u hu => h u (List.mem_cons_of_mem _ hu))
    refine ⟨?_, ?_⟩
    · show (if 20 ≤ v ∧ v ≤ 24 then v :: (T ++ W) else dtbU (T ++ W)) = _
      rw [if_neg (by omega)]; exact ih.1
    · show (if 20 ≤ v ∧ v ≤ 24 then C else dtbC (T ++ W) (v :: C)) = dtbC W (if tt1 v = true then dwC tt1 T (v :: C) else C)
      rw [if_neg (by omega), if_pos rfl]; exact ih.2
theorem p34_14 {v : Int} (h : p34 v = true) : p14 v = true := by
  have := of_decide_eq_true h
  exact decide_eq_true (by omega)
theorem dwC_tt : ∀ (T S C : List Int), dwC tt1 (T ++ S) C = dwC tt1 S (dwC tt1 T C)
  | [], S, C => rfl
  | v :: T, S, C => dwC_tt T S (v :: C)
def PSim (t : Int → Int) (n tk : Int) (K : Nat) (o : Int) (p : (Int × Bool) → List Int → RD) : Prop := ∀ q C U, (n - q.1).toNat < K →
  (∀ r, p q C = .inl r → Ay t n tk K (q, U, C, o) = Ey t n tk K (r.1, U, r.2, o) ∧ q.1 ≤ r.1.1) ∧ (∀ f, p q C = .inr f → Ay t n tk K (q, U, C, o) = .inr f)
/-- how far a product, a sum is read where signs W wait -/
def MSim (t : Int → Int) (n tk : Int) (K : Nat) (o : Int) (W : List Int) (P : Int → Bool) (a : Y4 ⊕ (Int × Int)) (m : Int) (c1 c2 c3 c4 : Int) (x : RD) : Prop :=
  (∀ r, x = .inl r → ∃ T C1, (∀ v, v ∈ T → P v = true) ∧ a = By t n tk K (r.1, T ++ W, C1, o) ∧ dwC tt1 T C1 = r.2 ∧ nxt t n (.inl r.1) ≠ c1 ∧ nxt t n (.inl r.1) ≠ c2 ∧ nxt t n (.inl r.1) ≠ c3 ∧ nxt t n (.inl r.1) ≠ c4 ∧ m ≤ r.1.1) ∧ (∀ f, x = .inr f → a = .inr f)
def H60 (W : List Int) : Prop := ∀ v r, W = v :: r → v < 60
theorem E_id {t : Int → Int} {n tk : Int} {K : Nat} {q : Int × Bool} {W C : List Int} {o : Int} (h : H60 W) : Ey t n tk K (q, W, C, o) = By t n tk K (q, W, C, o) := by
  obtain ⟨e1, e2, e3⟩ := ep_id h C
  unfold Ey
  simp only [e1, e2, e3]
  rw [Int.sub_zero]
theorem H60_app {P : Int → Bool} (hP : ∀ v, P v = true → v < 60) {T W : List Int} (h : ∀ v, v ∈ T → P v = true) (hW : H60 W) : H60 (T ++ W) := by
  cases T with
  | nil => exact hW
  | cons u T => exact fun v r e => by cases e; exact hP u (h u List.mem_cons_self)
theorem HB.h60 {W : List Int} (h : HB W) : H60 W := fun v r e => by have := h v r e; omega

theorem prod_loop {t : Int → Int} {n tk : Int} {K : Nat} {o : Int} {p : (Int × Bool) → List Int → RD} {W : List Int} (hp : PSim t n tk K o p) (hW : H60 W) (hd : dwU p34 W = W) (hc : ∀ C, dwC p34 W C = C) : ∀ (k : Nat) (q : Int × Bool) (T C1 : List Int), (∀ v, v ∈ T → p34 v = true) → (n - q.1).toNat < k → k ≤ K →
    MSim t n tk K o W p34 (By t n tk K (q, T ++ W, C1, o)) q.1 42 47 42 47 (loopR t n p 42 3 47 4 k q (dwC tt1 T C1))
  | 0, q, T, C1, _, h, _ => absurd h (Nat.not_lt_zero _)
  | k + 1, q, T, C1, hT, h, hK => by
    have s1 := skp_ge t n q.1
    have hx : loopR t n p 42 3 47 4 (k + 1) q (dwC tt1 T C1) = if nxt t n (.inl q) = 42 ∨ nxt t n (.inl q) = 47 then
      (match p (skp t n q.1 + 1, false) (dwC tt1 T C1) with
      | .inr f => .inr f
      | .inl r => loopR t n p 42 3 47 4 k r.1 ((if nxt t n (.inl q) = 42 then 3 else 4) :: r.2))
      else .inl (q, dwC tt1 T C1) := rfl
    by_cases g : nxt t n (.inl q) = 42 ∨ nxt t n (.inl q) = 47
    · rw [if_pos g] at hx
      have hn : skp t n q.1 < n := by
        rcases g with g | g <;> exact lkv_n (t := t) (n := n) (a := skp t n q.1) g (by decide)
      have eB : By t n tk K (q, T ++ W, C1, o) = Ay t n tk K ((skp t n q.1 + 1, false), (if nxt t n (.inl q) = 42 then 3 else 4) :: W, dwC tt1 T C1, o) := by
        rw [B_nc (by omega) (fun c => by have := c.1; omega)]
        unfold nxtY
        simp only [if_pos g, if_true]
        rw [dwU_app p34 T W hT, dwC_app p34 T W C1 hT, hd, hc]
      obtain ⟨p1, p2⟩ := hp (skp t n q.1 + 1, false) (dwC tt1 T C1) ((if nxt t n (.inl q) = 42 then 3 else 4) :: W) (by simp only; omega)
      cases hq : p (skp t n q.1 + 1, false) (dwC tt1 T C1) with
      | inr f =>
        rw [hq] at hx
        refine ⟨fun r e => ?_, fun f' e => ?_⟩
        · rw [hx] at e; cases e
        · rw [hx] at e; cases e
          rw [eB]; exact p2 f hq
      | inl r =>
        rw [hq] at hx
        obtain ⟨p3, p4⟩ := p1 r hq
        simp only at hx p4
        have hT2 : ∀ v, v ∈ [(if nxt t n (.inl q) = 42 then (3 : Int) else 4)] → p34 v = true := fun v hv => by
          rw [List.mem_singleton] at hv
          rw [hv]
          split <;> rfl
        have hE : Ey t n tk K (r.1, (if nxt t n (.inl q) = 42 then (3 : Int) else 4) :: W, r.2, o) = By t n tk K (r.1, [(if nxt t n (.inl q) = 42 then (3 : Int) else 4)] ++ W, r.2, o) := E_id (fun v r e => by cases e; split <;> omega)
        have ih := prod_loop hp hW hd hc k r.1 [(if nxt t n (.inl q) = 42 then (3 : Int) else 4)] r.2 hT2 (by omega) (by omega)
        have e5 : dwC tt1 [(if nxt t n (.inl q) = 42 then (3 : Int) else 4)] r.2 = (if nxt t n (.inl q) = 42 then (3 : Int) else 4) :: r.2 := rfl
        rw [e5] at ih
        rw [hx, eB, p3, hE]
        obtain ⟨i1, i2⟩ := ih
        refine ⟨fun r' e => ?_, i2⟩
        obtain ⟨T', C2, j1, j2, j3, j4, j5, j6, j7, j8⟩ := i1 r' e
        exact ⟨T', C2, j1, j2, j3, j4, j5, j6, j7, by omega⟩
    · rw [if_neg g] at hx
      rw [hx]
      refine ⟨fun r e => ?_, fun f e => by cases e⟩
      cases e
      exact ⟨T, C1, hT, rfl, rfl, fun c => g (Or.inl c), fun c => g (Or.inr c), fun c => g (Or.inl c), fun c => g (Or.inr c), Int.le_refl _⟩
theorem prod_sim {t : Int → Int} {n tk : Int} {K : Nat} {o : Int} {p : (Int × Bool) → List Int → RD} {W : List Int} (hp : PSim t n tk K o p) (hW : H60 W) (hd : dwU p34 W = W) (hc : ∀ C, dwC p34 W C = C) (q : Int × Bool) (C : List Int) (hK : (n - q.1).toNat < K) :
    MSim t n tk K o W p34 (Ay t n tk K (q, W, C, o)) q.1 42 47 42 47 (prodR t n K p q C) := by
  obtain ⟨p1, p2⟩ := hp q C W hK
  cases hq : p q C with
  | inr f =>
    have hx : prodR t n K p q C = .inr f := by unfold prodR; rw [hq]
    refine ⟨fun r e => ?_, fun f' e => ?_⟩
    · rw [hx] at e; cases e
    · rw [hx] at e; cases e; exact p2 f hq
  | inl r =>
    have hx : prodR t n K p q C = loopR t n p 42 3 47 4 K r.1 r.2 := by unfold prodR; rw [hq]
    obtain ⟨p3, p4⟩ := p1 r hq
    rw [hx, p3, E_id hW]
    obtain ⟨i1, i2⟩ := prod_loop hp hW hd hc K r.1 [] r.2 (fun v hv => absurd hv List.not_mem_nil) (by omega) (Nat.le_refl _)
    refine ⟨fun r' e => ?_, i2⟩
    obtain ⟨T', C2, j1, j2, j3, j4, j5, j6, j7, j8⟩ := i1 r' e
    exact ⟨T', C2, j1, j2, j3, j4, j5, j6, j7, by omega⟩
def p12 (v : Int) : Bool := decide (v = 1 ∨ v = 2)
theorem sum_loop {t : Int → Int} {n tk : Int} {K : Nat} {o : Int} {p : (Int × Bool) → List Int → RD} {U : List Int} (hp : PSim t n tk K o p) (hU : HB U) : ∀ (k : Nat) (q : Int × Bool) (T C1 : List Int), (∀ v, v ∈ T → p14 v = true) → nxt t n (.inl q) ≠ 42 → nxt t n (.inl q) ≠ 47 → (n - q.1).toNat < k → k ≤ K →
    MSim t n tk K o U p14 (By t n tk K (q, T ++ U, C1, o)) q.1 42 47 43 45 (loopR t n (prodR t n K p) 43 1 45 2 k q (dwC tt1 T C1))
  | 0, q, T, C1, _, _, _, h, _ => absurd h (Nat.not_lt_zero _)
  | k + 1, q, T, C1, hT, n1, n2, h, hK => by
    have s1 := skp_ge t n q.1
    obtain ⟨hd, -⟩ := dw_hb hU p14_hb C1
    have hx : loopR t n (prodR t n K p) 43 1 45 2 (k + 1) q (dwC tt1 T C1) = if nxt t n (.inl q) = 43 ∨ nxt t n (.inl q) = 45 then
      (match prodR t n K p (skp t n q.1 + 1, false) (dwC tt1 T C1) with
      | .inr f => .inr f
      | .inl r => loopR t n (prodR t n K p) 43 1 45 2 k r.1 ((if nxt t n (.inl q) = 43 then 1 else 2) :: r.2))
      else .inl (q, dwC tt1 T C1) := rfl
    by_cases g : nxt t n (.inl q) = 43 ∨ nxt t n (.inl q) = 45
    · rw [if_pos g] at hx
      have hn : skp t n q.1 < n := by
        rcases g with g | g <;> exact lkv_n (t := t) (n := n) (a := skp t n q.1) g (by decide)
      have eB : By t n tk K (q, T ++ U, C1, o) = Ay t n tk K ((skp t n q.1 + 1, false), [(if nxt t n (.inl q) = 43 then (1 : Int) else 2)] ++ U, dwC tt1 T C1, o) := by
        rw [B_nc (by omega) (fun c => by have := c.1; omega)]
        unfold nxtY
        rw [if_neg (by simp only; omega), if_pos g]
        simp only [if_true]
        rw [dwU_app p14 T U hT, dwC_app p14 T U C1 hT, hd, (dw_hb hU p14_hb _).2]
        rfl
      have hT2 : ∀ v, v ∈ [(if nxt t n (.inl q) = 43 then (1 : Int) else 2)] → p14 v = true := fun v hv => by
        rw [List.mem_singleton] at hv
        rw [hv]
        split <;> rfl
      have e34 : ∀ (x : Int), (x = 1 ∨ x = 2) → ∀ D, dwU p34 (x :: U) = x :: U ∧ dwC p34 (x :: U) D = D := fun x hx D => by
        have : ¬ p34 x = true := by rcases hx with rfl | rfl <;> decide
        exact ⟨if_neg this, if_neg this⟩
      have hx12 : (if nxt t n (.inl q) = 43 then (1 : Int) else 2) = 1 ∨ (if nxt t n (.inl q) = 43 then (1 : Int) else 2) = 2 := by split <;> omega
      obtain ⟨p1, p2⟩ := prod_sim (W := [(if nxt t n (.inl q) = 43 then (1 : Int) else 2)] ++ U) hp (fun v r e => by cases e; omega) (e34 _ hx12 []).1 (fun D => (e34 _ hx12 D).2) (skp t n q.1 + 1, false) (dwC tt1 T C1) (by simp only; omega)
      cases hq : prodR t n K p (skp t n q.1 + 1, false) (dwC tt1 T C1) with
      | inr f =>
        rw [hq] at hx
        refine ⟨fun r e => ?_, fun f' e => ?_⟩
        · rw [hx] at e; cases e
        · rw [hx] at e; cases e
          rw [eB]; exact p2 f hq
      | inl r =>
        rw [hq] at hx
        obtain ⟨T1, C2, j1, j2, j3, j4, j5, -, -, j8⟩ := p1 r hq
        simp only at hx j8
        have hT3 : ∀ v, v ∈ T1 ++ [(if nxt t n (.inl q) = 43 then (1 : Int) else 2)] → p14 v = true := fun v hv => by
          rcases List.mem_append.mp hv with hv | hv
          · exact p34_14 (j1 v hv)
          · exact hT2 v hv
        have ih := sum_loop hp hU k r.1 (T1 ++ [(if nxt t n (.inl q) = 43 then (1 : Int) else 2)]) C2 hT3 j4 j5 (by omega) (by omega)
        have e5 : dwC tt1 (T1 ++ [(if nxt t n (.inl q) = 43 then (1 : Int) else 2)]) C2 = (if nxt t n (.inl q) = 43 then (1 : Int) else 2) :: r.2 := by
          rw [dwC_tt, j3]; rfl
        rw [e5, List.append_assoc] at ih
        rw [hx, eB, j2]
        obtain ⟨i1, i2⟩ := ih
        refine ⟨fun r' e => ?_, i2⟩
        obtain ⟨T', C3, j1, j2, j3, j4, j5, j6, j7, j8⟩ := i1 r' e
        exact ⟨T', C3, j1, j2, j3, j4, j5, j6, j7, by omega⟩
    · rw [if_neg g] at hx
      rw [hx]
      refine ⟨fun r e => ?_, fun f e => by cases e⟩
      cases e
      exact ⟨T, C1, hT, rfl, rfl, n1, n2, fun c => g (Or.inl c), fun c => g (Or.inr c), Int.le_refl _⟩
theorem sum_sim {t : Int → Int} {n tk : Int} {K : Nat} {o : Int} {p : (Int × Bool) → List Int → RD} {U : List Int} (hp : PSim t n tk K o p) (hU : HB U) (q : Int × Bool) (C : List Int) (hK : (n - q.1).toNat < K) :
    MSim t n tk K o U p14 (Ay t n tk K (q, U, C, o)) q.1 42 47 43 45 (sumR t n K p q C) := by
  obtain ⟨p1, p2⟩ := prod_sim hp hU.h60 (dw_hb hU p34_hb C).1 (fun D => (dw_hb hU p34_hb D).2) q C hK
  cases hq : prodR t n K p q C with
  | inr f =>
    have hx : sumR t n K p q C = .inr f := by unfold sumR; rw [hq]
    refine ⟨fun r e => ?_, fun f' e => ?_⟩
    · rw [hx] at e; cases e
    · rw [hx] at e; cases e; exact p2 f hq
  | inl r =>
    have hx : sumR t n K p q C = loopR t n (prodR t n K p) 43 1 45 2 K r.1 r.2 := by unfold sumR; rw [hq]
    obtain ⟨T1, C2, j1, j2, j3, j4, j5, -, -, j8⟩ := p1 r hq
    rw [hx, j2, ← j3]
    obtain ⟨i1, i2⟩ := sum_loop hp hU K r.1 T1 C2 (fun v hv => p34_14 (j1 v hv)) j4 j5 (by omega) (Nat.le_refl _)
    refine ⟨fun r' e => ?_, i2⟩
    obtain ⟨T', C3, j1, j2, j3, j4, j5, j6, j7, j8⟩ := i1 r' e
    exact ⟨T', C3, j1, j2, j3, j4, j5, j6, j7, by omega⟩
