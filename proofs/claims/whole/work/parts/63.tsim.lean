/-! ===== the machine's course through a test ===== -/
theorem clsT_fuel {t : Int → Int} {n : Int} : ∀ (k k' : Nat) (y : Y4), (n - y.1.1).toNat < k → (n - y.1.1).toNat < k' → clsT t n k y = clsT t n k' y
  | 0, k', y, h, _ => absurd h (Nat.not_lt_zero _)
  | k + 1, 0, y, _, h => absurd h (Nat.not_lt_zero _)
  | k + 1, k' + 1, y, h, h' => by
    have s1 := skp_ge t n y.1.1
    unfold clsT
    by_cases g : nxt t n (.inl y.1) = 93 ∧ 25 ∈ y.2.1
    · rw [if_pos g, if_pos g]
      have hn := lkv_n (t := t) (n := n) (a := skp t n y.1.1) g.1 (by decide)
      exact clsT_fuel k k' _ (by simp only; omega) (by simp only; omega)
    · rw [if_neg g, if_neg g]
theorem fact_n {t : Int → Int} {n tk : Int} {K : Nat} {y y' : Y3} (h : factY t n tk K y = .inl y') (hK : 0 < K) : y.1.1 < n := by
  have hs : ∀ z, sumsY t n tk K y = .inl z → y.1.1 < n := fun z hz => by
    obtain ⟨k, rfl⟩ : ∃ k, K = k + 1 := ⟨K - 1, by omega⟩
    unfold sumsY at hz
    rw [sumsL] at hz
    cases hp : partY t n tk (k + 1) (y.1, [], y.2.1, y.2.2) with
    | inr f => rw [hp] at hz; cases hz
    | inl y1 => have := part_n hp; simp only at this; omega
  unfold factY at h
  by_cases g : tw t n (.inl y.1) = 20962395
  · have s1 := skp_ge t n y.1.1
    have := (tw_w g (by decide)).1
    omega
  · rw [if_neg g] at h
    cases hz : sumsY t n tk K y with
    | inr f => rw [hz] at h; cases h
    | inl z => exact hs z hz
theorem testL_fuel {t : Int → Int} {n tk : Int} {K : Nat} (hK : 0 < K) : ∀ (k k' : Nat) (y : Y4), (n - y.1.1).toNat < k → (n - y.1.1).toNat < k' → testL t n tk K k y = testL t n tk K k' y
  | 0, k', y, h, _ => absurd h (Nat.not_lt_zero _)
  | k + 1, 0, y, _, h => absurd h (Nat.not_lt_zero _)
  | k + 1, k' + 1, y, h, h' => by
    have s1 := skp_ge t n y.1.1
    unfold testL
    by_cases g1 : nxt t n (.inl y.1) = 91
    · rw [if_pos g1, if_pos g1]
      have hn := lkv_n (t := t) (n := n) (a := skp t n y.1.1) g1 (by decide)
      by_cases g2 : y.2.2.2 = 6
      · rw [if_pos g2, if_pos g2]
      · rw [if_neg g2, if_neg g2]; exact testL_fuel hK k k' _ (by simp only; omega) (by simp only; omega)
    · rw [if_neg g1, if_neg g1]
      by_cases g3 : tw t n (.inl y.1) = 209249973
      · rw [if_pos g3, if_pos g3]
        have lt := goT_lt (tw_w g3 (by decide))
        by_cases g2 : y.2.2.2 = 6
        · rw [if_pos g2, if_pos g2]
        · rw [if_neg g2, if_neg g2]; exact testL_fuel hK k k' _ (by simp only; omega) (by simp only; omega)
      · rw [if_neg g3, if_neg g3]
        cases hf : factY t n tk K (y.1, y.2.2.1, y.2.2.2) with
        | inr f => rfl
        | inl y1 =>
          simp only
          have h1 := fact_lt hf hK
          have h2 := fact_n hf hK
          cases hg : goesT t n K (y1.1, dnU y.2.1, dnC y.2.1 y1.2.1, y1.2.2 - dnN y.2.1) with
          | inr f => rfl
          | inl r =>
            obtain ⟨b, y2⟩ := r
            have h3 := goesT_le hg
            simp only at h1 h2 h3 ⊢
            cases b with
            | true => simp only [if_true]; exact testL_fuel hK k k' y2 (by omega) (by omega)
            | false => simp only [Bool.false_eq_true, if_false]
noncomputable def At (t : Int → Int) (n tk : Int) (K : Nat) (y : Y4) : Y4 ⊕ (Int × Int) := testL t n tk K K y
noncomputable def Bt (t : Int → Int) (n tk : Int) (K : Nat) (y : Y4) : Y4 ⊕ (Int × Int) := match goesT t n K y with
  | .inr f => .inr f
  | .inl r => if r.1 = true then At t n tk K r.2 else .inl r.2
noncomputable def Et (t : Int → Int) (n tk : Int) (K : Nat) (y : Y4) : Y4 ⊕ (Int × Int) := Bt t n tk K (y.1, dnU y.2.1, dnC y.2.1 y.2.2.1, y.2.2.2 - dnN y.2.1)
theorem AT_unf {t : Int → Int} {n tk : Int} {K : Nat} {q : Int × Bool} {U C : List Int} {o : Int} (hK : (n - q.1).toNat < K) : At t n tk K (q, U, C, o) = 
    (if nxt t n (.inl q) = 91 then (if o = 6 then .inr (4, skp t n q.1) else At t n tk K ((skp t n q.1 + 1, false), 25 :: U, C, o + 1))
    else if tw t n (.inl q) = 209249973 then (if o = 6 then .inr (4, skp t n q.1) else At t n tk K ((run isL t n (skp t n q.1), true), 12 :: U, C, o + 1))
    else match factY t n tk K (q, C, o) with
      | .inr f => .inr f
      | .inl y1 => Et t n tk K (y1.1, U, y1.2.1, y1.2.2)) := by
  have s1 := skp_ge t n q.1
  obtain ⟨k, rfl⟩ : ∃ k, K = k + 1 := ⟨K - 1, by omega⟩
  show testL t n tk (k + 1) (k + 1) (q, U, C, o) = _
  rw [testL]
  simp only
  by_cases g1 : nxt t n (.inl q) = 91
  · rw [if_pos g1, if_pos g1]
    have hn := lkv_n (t := t) (n := n) (a := skp t n q.1) g1 (by decide)
    by_cases g2 : o = 6
    · rw [if_pos g2, if_pos g2]
    · rw [if_neg g2, if_neg g2]; exact testL_fuel (by omega) k (k + 1) _ (by simp only; omega) (by simp only; omega)
  · rw [if_neg g1, if_neg g1]
    by_cases g3 : tw t n (.inl q) = 209249973
    · rw [if_pos g3, if_pos g3]
      have lt := goT_lt (tw_w g3 (by decide))
      by_cases g2 : o = 6
      · rw [if_pos g2, if_pos g2]
      · rw [if_neg g2, if_neg g2]; exact testL_fuel (by omega) k (k + 1) _ (by simp only; omega) (by simp only; omega)
    · rw [if_neg g3, if_neg g3]
      cases hf : factY t n tk (k + 1) (q, C, o) with
      | inr f => rfl
      | inl y1 =>
        have h1 := fact_lt hf (by omega)
        have h2 := fact_n hf (by omega)
        simp only at h1 h2 ⊢
        unfold Et Bt
        simp only
        cases hg : goesT t n (k + 1) (y1.1, dnU U, dnC U y1.2.1, y1.2.2 - dnN U) with
        | inr f => rfl
        | inl r =>
          obtain ⟨b, y2⟩ := r
          have h3 := goesT_le hg
          simp only at h3 ⊢
          cases b with
          | true => simp only [if_true]; exact testL_fuel (by omega) k (k + 1) y2 (by omega) (by omega)
          | false => simp only [Bool.false_eq_true, if_false]
theorem BT_close {t : Int → Int} {n tk : Int} {K : Nat} {q : Int × Bool} {U C : List Int} {o : Int} (hK : (n - q.1).toNat < K) (hc : nxt t n (.inl q) = 93) (hb : 25 ∈ U) :
    Bt t n tk K (q, U, C, o) = Et t n tk K ((skp t n q.1 + 1, false), (dwU p25 U).tail, dwC p25 U C, o - 1) := by
  have s1 := skp_ge t n q.1
  have hn := lkv_n (t := t) (n := n) (a := skp t n q.1) hc (by decide)
  have e : goesT t n K (q, U, C, o) = goesT t n K ((skp t n q.1 + 1, false), dnU (dwU p25 U).tail, dnC (dwU p25 U).tail (dwC p25 U C), o - 1 - dnN (dwU p25 U).tail) := by
    unfold goesT
    obtain ⟨k, rfl⟩ : ∃ k, K = k + 1 := ⟨K - 1, by omega⟩
    rw [clsT, if_pos ⟨hc, hb⟩]
    rw [clsT_fuel k (k + 1) _ (by simp only; omega) (by simp only; omega)]
  unfold Et Bt
  rw [e]
theorem BT_nc {t : Int → Int} {n tk : Int} {K : Nat} {q : Int × Bool} {U C : List Int} {o : Int} (hK : 0 < K) (hc : ¬ (nxt t n (.inl q) = 93 ∧ 25 ∈ U)) :
    Bt t n tk K (q, U, C, o) = match nxtT t n (q, U, C, o) with
      | .inr f => .inr f
      | .inl r => if r.1 = true then At t n tk K r.2 else .inl r.2 := by
  have e : goesT t n K (q, U, C, o) = nxtT t n (q, U, C, o) := by
    unfold goesT
    obtain ⟨k, rfl⟩ : ∃ k, K = k + 1 := ⟨K - 1, by omega⟩
    rw [clsT, if_neg hc]
  unfold Bt
  rw [e]
theorem tw_nxt {t : Int → Int} {n c : Int} {q : Int × Bool} (h : tw t n (.inl q) = c) (hc : c ≠ 0) : 97 ≤ nxt t n (.inl q) ∧ nxt t n (.inl q) ≤ 122 := by
  have hw := tw_w h hc
  have e : nxt t n (.inl q) = t (skp t n q.1) := by
    show lkv t n _ = _
    unfold lkv; rw [if_pos hw.1]
  rw [e]
  exact isL_iff.mp hw.2.1
/-! ===== the machine and the formulas as told: facts and tests ===== -/
def FSim (t : Int → Int) (n tk : Int) (K : Nat) (o : Int) (p : (Int × Bool) → List Int → RD) : Prop := ∀ q C U, (n - q.1).toNat < K →
  (∀ r, p q C = .inl r → At t n tk K (q, U, C, o) = Et t n tk K (r.1, U, r.2, o) ∧ q.1 ≤ r.1.1) ∧ (∀ f, p q C = .inr f → At t n tk K (q, U, C, o) = .inr f)
def NSim (t : Int → Int) (n tk : Int) (K : Nat) (o : Int) (W : List Int) (P : Int → Bool) (a : Y4 ⊕ (Int × Int)) (m : Int) (c1 c2 : Int) (x : RD) : Prop :=
  (∀ r, x = .inl r → ∃ T C1, (∀ v, v ∈ T → P v = true) ∧ a = Bt t n tk K (r.1, T ++ W, C1, o) ∧ dwC tt1 T C1 = r.2 ∧ tw t n (.inl r.1) ≠ c1 ∧ tw t n (.inl r.1) ≠ c2 ∧ m ≤ r.1.1) ∧ (∀ f, x = .inr f → a = .inr f)
theorem dn_id {W : List Int} (h : ∀ v r, W = v :: r → v ≠ 12) (C : List Int) : dnU W = W ∧ dnC W C = C ∧ dnN W = 0 := by
  cases W with
  | nil => exact ⟨rfl, rfl, rfl⟩
  | cons v r => exact ⟨if_neg (h v r rfl), if_neg (h v r rfl), if_neg (h v r rfl)⟩
def H12 (W : List Int) : Prop := ∀ v r, W = v :: r → v ≠ 12
theorem ET_id {t : Int → Int} {n tk : Int} {K : Nat} {q : Int × Bool} {W C : List Int} {o : Int} (h : H12 W) : Et t n tk K (q, W, C, o) = Bt t n tk K (q, W, C, o) := by
  obtain ⟨e1, e2, e3⟩ := dn_id h C
  unfold Et
  simp only [e1, e2, e3]
  rw [Int.sub_zero]
theorem both_loop {t : Int → Int} {n tk : Int} {K : Nat} {o : Int} {p : (Int × Bool) → List Int → RD} {W : List Int} (hp : FSim t n tk K o p) (hW : H12 W) (hd : dwU p10 W = W) (hc : ∀ C, dwC p10 W C = C) : ∀ (k : Nat) (q : Int × Bool) (T C1 : List Int), (∀ v, v ∈ T → p10 v = true) → (n - q.1).toNat < k → k ≤ K →
    NSim t n tk K o W p10 (Bt t n tk K (q, T ++ W, C1, o)) q.1 21867813 21867813 (loopW t n p 21867813 10 k q (dwC tt1 T C1))
  | 0, q, T, C1, _, h, _ => absurd h (Nat.not_lt_zero _)
  | k + 1, q, T, C1, hT, h, hK => by
    have s1 := skp_ge t n q.1
    have hx : loopW t n p 21867813 10 (k + 1) q (dwC tt1 T C1) = if tw t n (.inl q) = 21867813 then
      (match p (run isL t n (skp t n q.1), true) (dwC tt1 T C1) with
      | .inr f => .inr f
      | .inl r => loopW t n p 21867813 10 k r.1 (10 :: r.2))
      else .inl (q, dwC tt1 T C1) := rfl
    by_cases g : tw t n (.inl q) = 21867813
    · rw [if_pos g] at hx
      have hn := tw_nxt g (by decide)
      have lt := goT_lt (tw_w g (by decide))
      have ln := (tw_w g (by decide)).1
      have eB : Bt t n tk K (q, T ++ W, C1, o) = At t n tk K ((run isL t n (skp t n q.1), true), 10 :: W, dwC tt1 T C1, o) := by
        rw [BT_nc (by omega) (fun c => by have := c.1; omega)]
        unfold nxtT
        simp only [if_pos g, if_true]
        rw [dwU_app p10 T W hT, dwC_app p10 T W C1 hT, hd, hc]
      obtain ⟨p1, p2⟩ := hp (run isL t n (skp t n q.1), true) (dwC tt1 T C1) (10 :: W) (by simp only; omega)
      cases hq : p (run isL t n (skp t n q.1), true) (dwC tt1 T C1) with
      | inr f =>
        rw [hq] at hx
        refine ⟨fun r e => ?_, fun f' e => ?_⟩
        · rw [hx] at e; cases e
        · rw [hx] at e; cases e
          rw [eB]; exact p2 f hq
      | inl r =>
        rw [hq] at hx
        obtain ⟨p3, p4⟩ := p1 r hq
        simp only at hx p4
        have hE : Et t n tk K (r.1, 10 :: W, r.2, o) = Bt t n tk K (r.1, [10] ++ W, r.2, o) := ET_id (fun v r e => by cases e; decide)
        have ih := both_loop hp hW hd hc k r.1 [10] r.2 (fun v hv => by rw [List.mem_singleton] at hv; rw [hv]; rfl) (by omega) (by omega)
        have e5 : dwC tt1 [10] r.2 = 10 :: r.2 := rfl
        rw [e5] at ih
        rw [hx, eB, p3, hE]
        obtain ⟨i1, i2⟩ := ih
        refine ⟨fun r' e => ?_, i2⟩
        obtain ⟨T', C2, j1, j2, j3, j4, j5, j8⟩ := i1 r' e
        exact ⟨T', C2, j1, j2, j3, j4, j5, by omega⟩
    · rw [if_neg g] at hx
      rw [hx]
      refine ⟨fun r e => ?_, fun f e => by cases e⟩
      cases e
      exact ⟨T, C1, hT, rfl, rfl, g, g, Int.le_refl _⟩
theorem both_sim {t : Int → Int} {n tk : Int} {K : Nat} {o : Int} {p : (Int × Bool) → List Int → RD} {W : List Int} (hp : FSim t n tk K o p) (hW : H12 W) (hd : dwU p10 W = W) (hc : ∀ C, dwC p10 W C = C) (q : Int × Bool) (C : List Int) (hK : (n - q.1).toNat < K) :
    NSim t n tk K o W p10 (At t n tk K (q, W, C, o)) q.1 21867813 21867813 (bothR t n K p q C) := by
  obtain ⟨p1, p2⟩ := hp q C W hK
  cases hq : p q C with
  | inr f =>
    have hx : bothR t n K p q C = .inr f := by unfold bothR; rw [hq]
    refine ⟨fun r e => ?_, fun f' e => ?_⟩
    · rw [hx] at e; cases e
    · rw [hx] at e; cases e; exact p2 f hq
  | inl r =>
    have hx : bothR t n K p q C = loopW t n p 21867813 10 K r.1 r.2 := by unfold bothR; rw [hq]
    obtain ⟨p3, p4⟩ := p1 r hq
    rw [hx, p3, ET_id hW]
    obtain ⟨i1, i2⟩ := both_loop hp hW hd hc K r.1 [] r.2 (fun v hv => absurd hv List.not_mem_nil) (by omega) (Nat.le_refl _)
    refine ⟨fun r' e => ?_, i2⟩
    obtain ⟨T', C2, j1, j2, j3, j4, j5, j8⟩ := i1 r' e
    exact ⟨T', C2, j1, j2, j3, j4, j5, by omega⟩
def HS (U : List Int) : Prop := ∀ v r, U = v :: r → v = 25
theorem HS.dw {p : Int → Bool} {U : List Int} (h : HS U) (hp : p 25 = false) (C : List Int) : dwU p U = U ∧ dwC p U C = C := by
  cases U with
  | nil => exact ⟨rfl, rfl⟩
  | cons v r =>
    have h2 : ¬ p v = true := fun c => by rw [h v r rfl, hp] at c; cases c
    exact ⟨if_neg h2, if_neg h2⟩
theorem p10_11 {v : Int} (h : p10 v = true) : p1011 v = true := by
  have := of_decide_eq_true h
  exact decide_eq_true (by omega)
theorem tst_loop {t : Int → Int} {n tk : Int} {K : Nat} {o : Int} {p : (Int × Bool) → List Int → RD} {U : List Int} (hp : FSim t n tk K o p) (hU : HS U) : ∀ (k : Nat) (q : Int × Bool) (T C1 : List Int), (∀ v, v ∈ T → p1011 v = true) → tw t n (.inl q) ≠ 21867813 → (n - q.1).toNat < k → k ≤ K →
    NSim t n tk K o U p1011 (Bt t n tk K (q, T ++ U, C1, o)) q.1 21867813 224799543 (loopW t n (bothR t n K p) 224799543 11 k q (dwC tt1 T C1))
  | 0, q, T, C1, _, _, h, _ => absurd h (Nat.not_lt_zero _)
  | k + 1, q, T, C1, hT, n1, h, hK => by
    have s1 := skp_ge t n q.1
    have hx : loopW t n (bothR t n K p) 224799543 11 (k + 1) q (dwC tt1 T C1) = if tw t n (.inl q) = 224799543 then
      (match bothR t n K p (run isL t n (skp t n q.1), true) (dwC tt1 T C1) with
      | .inr f => .inr f
      | .inl r => loopW t n (bothR t n K p) 224799543 11 k r.1 (11 :: r.2))
      else .inl (q, dwC tt1 T C1) := rfl
    by_cases g : tw t n (.inl q) = 224799543
    · rw [if_pos g] at hx
      have hn := tw_nxt g (by decide)
      have lt := goT_lt (tw_w g (by decide))
      have ln := (tw_w g (by decide)).1
      have eB : Bt t n tk K (q, T ++ U, C1, o) = At t n tk K ((run isL t n (skp t n q.1), true), [11] ++ U, dwC tt1 T C1, o) := by
        rw [BT_nc (by omega) (fun c => by have := c.1; omega)]
        unfold nxtT
        rw [if_neg n1, if_pos g]
        simp only [if_true]
        rw [dwU_app p1011 T U hT, dwC_app p1011 T U C1 hT, (hU.dw rfl C1).1, (hU.dw rfl _).2]
        rfl
      obtain ⟨p1, p2⟩ := both_sim (W := [11] ++ U) hp (fun v r e => by cases e; decide) rfl (fun D => rfl) (run isL t n (skp t n q.1), true) (dwC tt1 T C1) (by simp only; omega)
      cases hq : bothR t n K p (run isL t n (skp t n q.1), true) (dwC tt1 T C1) with
      | inr f =>
        rw [hq] at hx
        refine ⟨fun r e => ?_, fun f' e => ?_⟩
        · rw [hx] at e; cases e
        · rw [hx] at e; cases e
          rw [eB]; exact p2 f hq
      | inl r =>
        rw [hq] at hx
        obtain ⟨T1, C2, j1, j2, j3, j4, -, j8⟩ := p1 r hq
        simp only at hx j8
        have hT3 : ∀ v, v ∈ T1 ++ [11] → p1011 v = true := fun v hv => by
          rcases List.mem_append.mp hv with hv | hv
          · exact p10_11 (j1 v hv)
          · rw [List.mem_singleton] at hv; rw [hv]; rfl
        have ih := tst_loop hp hU k r.1 (T1 ++ [11]) C2 hT3 j4 (by omega) (by omega)
        have e5 : dwC tt1 (T1 ++ [11]) C2 = 11 :: r.2 := by
          rw [dwC_tt, j3]; rfl
        rw [e5, List.append_assoc] at ih
        rw [hx, eB, j2]
        obtain ⟨i1, i2⟩ := ih
        refine ⟨fun r' e => ?_, i2⟩
        obtain ⟨T', C3, j1, j2, j3, j4, j5, j8⟩ := i1 r' e
        exact ⟨T', C3, j1, j2, j3, j4, j5, by omega⟩
    · rw [if_neg g] at hx
      rw [hx]
      refine ⟨fun r e => ?_, fun f e => by cases e⟩
      cases e
      exact ⟨T, C1, hT, rfl, rfl, n1, g, Int.le_refl _⟩
theorem tst_sim {t : Int → Int} {n tk : Int} {K : Nat} {o : Int} {p : (Int × Bool) → List Int → RD} {U : List Int} (hp : FSim t n tk K o p) (hU : HS U) (q : Int × Bool) (C : List Int) (hK : (n - q.1).toNat < K) :
    NSim t n tk K o U p1011 (At t n tk K (q, U, C, o)) q.1 21867813 224799543 (tstR t n K p q C) := by
  obtain ⟨p1, p2⟩ := both_sim hp (fun v r e => by rw [hU v r e]; decide) (hU.dw rfl C).1 (fun D => (hU.dw rfl D).2) q C hK
  cases hq : bothR t n K p q C with
  | inr f =>
    have hx : tstR t n K p q C = .inr f := by unfold tstR; rw [hq]
    refine ⟨fun r e => ?_, fun f' e => ?_⟩
    · rw [hx] at e; cases e
    · rw [hx] at e; cases e; exact p2 f hq
  | inl r =>
    have hx : tstR t n K p q C = loopW t n (bothR t n K p) 224799543 11 K r.1 r.2 := by unfold tstR; rw [hq]
    obtain ⟨T1, C2, j1, j2, j3, j4, -, j8⟩ := p1 r hq
    rw [hx, j2, ← j3]
    obtain ⟨i1, i2⟩ := tst_loop hp hU K r.1 T1 C2 (fun v hv => p10_11 (j1 v hv)) j4 (by omega) (Nat.le_refl _)
    refine ⟨fun r' e => ?_, i2⟩
    obtain ⟨T', C3, j1, j2, j3, j4, j5, j8⟩ := i1 r' e
    exact ⟨T', C3, j1, j2, j3, j4, j5, by omega⟩
theorem p25_app : ∀ (T U C : List Int), (∀ v, v ∈ T → p1011 v = true) → dwU p25 (T ++ 25 :: U) = 25 :: U ∧ dwC p25 (T ++ 25 :: U) C = dwC tt1 T C
  | [], U, C, _ => ⟨rfl, rfl⟩
  | v :: T, U, C, h => by
    have h1 := of_decide_eq_true (h v List.mem_cons_self)
    have h2 : p25 v = true := decide_eq_true (by omega)
    have ih := p25_app T U (v :: C) (fun u hu => h u (List.mem_cons_of_mem _ hu))
    exact ⟨(if_pos h2).trans ih.1, (if_pos h2).trans ih.2⟩
theorem FSim.mk {t : Int → Int} {n tk : Int} {K : Nat} {o : Int} {q : Int × Bool} {U C : List Int} (x : RD) (h : match x with | .inl r => At t n tk K (q, U, C, o) = Et t n tk K (r.1, U, r.2, o) ∧ q.1 ≤ r.1.1 | .inr f => At t n tk K (q, U, C, o) = .inr f) :
    (∀ r, x = .inl r → At t n tk K (q, U, C, o) = Et t n tk K (r.1, U, r.2, o) ∧ q.1 ≤ r.1.1) ∧ (∀ f, x = .inr f → At t n tk K (q, U, C, o) = .inr f) := by
  cases x with
  | inl r => exact ⟨fun r' e => by cases e; exact h, fun f e => by cases e⟩
  | inr f => exact ⟨fun r' e => (by cases e), fun f e => by cases e; exact h⟩
theorem factB_sim {t : Int → Int} {n tk : Int} {K : Nat} {o : Int} {b : Nat} {ok : Bool} {T F : (Int × Bool) → List Int → RD} (hb : o + b = 6) (h : ok = true ∧ o ≠ 6 ∧ (∀ q C U, (n - q.1).toNat < K → NSim t n tk K (o + 1) (25 :: U) p1011 (At t n tk K (q, 25 :: U, C, o + 1)) q.1 21867813 224799543 (T q C)) ∧ FSim t n tk K (o + 1) F ∨ ok = false ∧ o = 6) :
    FSim t n tk K o (factB t n ok (sumR t n K (partR t n tk K b)) T F) := by
  intro q C U hK
  have s1 := skp_ge t n q.1
  refine FSim.mk _ ?_
  rw [AT_unf hK]
  unfold factB
  by_cases g1 : nxt t n (.inl q) = 91
  · rw [if_pos g1, if_pos g1]
    rcases h with ⟨rfl, ho, hS, hF⟩ | ⟨rfl, ho⟩
    · rw [if_pos rfl, if_neg ho]
      have hn := lkv_n (t := t) (n := n) (a := skp t n q.1) g1 (by decide)
      obtain ⟨i1, i2⟩ := hS (skp t n q.1 + 1, false) C U (by simp only; omega)
      cases hx : T (skp t n q.1 + 1, false) C with
      | inr f => exact i2 f hx
      | inl r =>
        obtain ⟨T1, C1, j1, j2, j3, j4, j5, j8⟩ := i1 r hx
        simp only at j8 ⊢
        have s4 := skp_ge t n r.1.1
        obtain ⟨e1, e2⟩ := p25_app T1 U C1 j1
        rw [j3] at e2
        have hm : 25 ∈ T1 ++ 25 :: U := List.mem_append.mpr (Or.inr List.mem_cons_self)
        rw [j2]
        by_cases g2 : nxt t n (.inl r.1) = 93
        · rw [if_pos g2]
          simp only
          rw [BT_close (by omega) g2 hm, e1, e2, Int.add_sub_cancel]
          exact ⟨rfl, by omega⟩
        · rw [if_neg g2]
          simp only
          rw [BT_nc (by omega) (fun c => g2 c.1)]
          unfold nxtT
          rw [if_neg j4, if_neg j5, if_pos hm]
    · rw [if_neg (by decide), if_pos ho]
  · rw [if_neg g1, if_neg g1]
    by_cases g2 : tw t n (.inl q) = 209249973
    · rw [if_pos g2, if_pos g2]
      rcases h with ⟨rfl, ho, hS, hF⟩ | ⟨rfl, ho⟩
      · rw [if_pos rfl, if_neg ho]
        have lt := goT_lt (tw_w g2 (by decide))
        obtain ⟨i1, i2⟩ := hF (run isL t n (skp t n q.1), true) C (12 :: U) (by simp only; omega)
        cases hx : F (run isL t n (skp t n q.1), true) C with
        | inr f => exact i2 f hx
        | inl r =>
          obtain ⟨j1, j2⟩ := i1 r hx
          simp only at j2 ⊢
          rw [j1]
          refine ⟨?_, by omega⟩
          unfold Et
          simp only
          have e1 : dnU (12 :: U) = dnU U := if_pos (by decide)
          have e2 : dnC (12 :: U) r.2 = dnC U (12 :: r.2) := if_pos (by decide)
          have e3 : dnN (12 :: U) = dnN U + 1 := if_pos (by decide)
          rw [e1, e2, e3, show o + 1 - (dnN U + 1) = o - dnN U by omega]
      · rw [if_neg (by decide), if_pos ho]
    · rw [if_neg g2, if_neg g2]
      unfold factY
      simp only
      by_cases g3 : tw t n (.inl q) = 20962395
      · rw [if_pos g3, if_pos g3]
        have lt := goT_lt (tw_w g3 (by decide))
        exact ⟨rfl, by simp only; omega⟩
      · rw [if_neg g3, if_neg g3, sumsY_sim b hb q C hK]
        cases hx : sumR t n K (partR t n tk K b) q C with
        | inr f => rfl
        | inl r =>
          simp only
          have l1 : q.1 ≤ r.1.1 := by
            obtain ⟨i1, -⟩ := sum_sim (part_sim (t := t) (n := n) (tk := tk) (K := K) b o hb) HB_nil q C hK
            obtain ⟨T, C1, j1, j2, j3, j4, j5, j6, j7, j8⟩ := i1 r hx
            exact j8
          have s4 := skp_ge t n r.1.1
          by_cases g4 : nxt t n (.inl r.1) = 60 ∨ nxt t n (.inl r.1) = 62 ∨ nxt t n (.inl r.1) = 61
          · rw [if_pos g4, if_pos g4, sumsY_sim b hb _ _ (by simp only; omega)]
            cases hx2 : sumR t n K (partR t n tk K b) (skp t n r.1.1 + 1, false) r.2 with
            | inr f => rfl
            | inl r2 =>
              have l2 : skp t n r.1.1 + 1 ≤ r2.1.1 := by
                obtain ⟨i1, -⟩ := sum_sim (part_sim (t := t) (n := n) (tk := tk) (K := K) b o hb) HB_nil (skp t n r.1.1 + 1, false) r.2 (by simp only; omega)
                obtain ⟨T, C1, j1, j2, j3, j4, j5, j6, j7, j8⟩ := i1 r2 hx2
                exact j8
              exact ⟨rfl, by simp only; omega⟩
          · rw [if_neg g4, if_neg g4]
theorem fact_sim {t : Int → Int} {n tk : Int} {K : Nat} : ∀ (b : Nat) (o : Int), o + b = 6 → FSim t n tk K o (factR t n tk K b)
  | 0, o, h => factB_sim (b := 0) h (Or.inr ⟨rfl, by omega⟩)
  | b + 1, o, h => by
    have ih := fact_sim (t := t) (n := n) (tk := tk) (K := K) b (o + 1) (by omega)
    exact factB_sim (b := b + 1) h (Or.inl ⟨rfl, by omega, fun q C U hK => tst_sim ih (fun v r e => by cases e; rfl) q C hK, ih⟩)
/-- a formula as told: where its text ends and its codes, newest first; or its fault -/
noncomputable def sumF (t : Int → Int) (n tk : Int) (K : Nat) (q : Int × Bool) : RD := sumR t n K (partR t n tk K 6) q []
noncomputable def tstF (t : Int → Int) (n tk : Int) (K : Nat) (q : Int × Bool) : RD := tstR t n K (factR t n tk K 6) q []
theorem sumZ_F {t : Int → Int} {n tk : Int} {K : Nat} {q : Int × Bool} (hK : (n - q.1).toNat < K) : sumZ t n tk K q = sumF t n tk K q := by
  unfold sumZ sumF
  rw [sumsY_sim 6 (by decide) q [] hK]
  cases sumR t n K (partR t n tk K 6) q [] with
  | inr f => rfl
  | inl r => rfl
theorem testY_F {t : Int → Int} {n tk : Int} {K : Nat} {q : Int × Bool} (hK : (n - q.1).toNat < K) : testY t n tk K q = tstF t n tk K q := by
  obtain ⟨i1, i2⟩ := tst_sim (U := []) (fact_sim (t := t) (n := n) (tk := tk) (K := K) 6 0 (by decide)) (fun v r e => by cases e) q [] hK
  have e : testY t n tk K q = match At t n tk K (q, [], [], 0) with
    | .inr f => .inr f
    | .inl r => .inl (r.1, dwC tt1 r.2.1 r.2.2.1) := rfl
  rw [e]
  unfold tstF
  cases hx : tstR t n K (factR t n tk K 6) q [] with
  | inr f => rw [i2 f hx]
  | inl r =>
    obtain ⟨T, C1, j1, j2, j3, j4, j5, j8⟩ := i1 r hx
    have hm : ¬ 25 ∈ T ++ [] := fun c => by
      rw [List.append_nil] at c
      have := of_decide_eq_true (j1 25 c)
      omega
    rw [j2, BT_nc (by omega) (fun c => hm c.2)]
    unfold nxtT
    rw [if_neg j4, if_neg j5, if_neg hm]
    simp only [Bool.false_eq_true, if_false, List.append_nil, j3]
