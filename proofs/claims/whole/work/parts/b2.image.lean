/-! ===== image ===== -/
def imB (K : PF) (i : Int) : Int := if i = 0 then K 348 0 / 256 else if i = 1 then K 348 0 % 256 else if i = 2 then K 348 1 + 1 else if i = 3 then K 348 2 else if (i - 4) % 6 < 4 then K 348 (3 + 5 * ((i - 4) / 6) + (i - 4) % 6) else if (i - 4) % 6 = 4 then K 348 (3 + 5 * ((i - 4) / 6) + 4) / 256 else K 348 (3 + 5 * ((i - 4) / 6) + 4) % 256
def slF (t : Int → Int) : Nat → Int
  | 0 => 47
  | k + 1 => (3 * slF t k + t k) % 251
theorem slF_r (t : Int → Int) : ∀ k : Nat, 0 ≤ slF t k ∧ slF t k ≤ 250
  | 0 => by unfold slF; decide
  | k + 1 => by
    unfold slF
    have h1 := Int.emod_nonneg (3 * slF t k + t k) (show (251 : Int) ≠ 0 by decide)
    have h2 := Int.emod_lt_of_pos (3 * slF t k + t k) (show (0 : Int) < 251 by decide)
    omega
theorem slF_cg {t t' : Int → Int} : ∀ k : Nat, (∀ i : Int, 0 ≤ i → i < k → t i = t' i) → slF t k = slF t' k
  | 0, _ => rfl
  | k + 1, h => by
    unfold slF
    rw [slF_cg k (fun i i0 i1 => h i i0 (by omega)), h k (by omega) (by omega)]
theorem c_sealOf {X : CX} {I R : PF} {a n : Int} (hk : kd MF a = 12) (hl : (ln MF a : Int) < 2147483648) (hn : 0 ≤ n ∧ n ≤ (ln MF a : Int)) (ht : ∀ k, 0 ≤ k → k < n → 0 ≤ I a k ∧ I a k ≤ 255) : CN X 0 mX10_sealOf [(2, a), (0, n)] I R (fun v I' R' => v.2 = slF (I a) n.toNat ∧ I' = I ∧ R' = R) := by
  refine callee_b (by decide +kernel) (Nat.le_of_ble_eq_true rfl) rfl ?_
  have lp : ∀ (f k : Nat), n.toNat - k < f → k ≤ n.toNat → PN X 0 mX10_sealOf 5 [(2, a), (0, n), (0, slF (I a) k), (0, (k : Int))] [] I R (fun v I' R' => v.2 = slF (I a) n.toNat ∧ I' = I ∧ R' = R) := by
    intro f
    induction f with
    | zero => intro k h; exact absurd h (Nat.not_lt_zero _)
    | succ f ih =>
      intro k hf hk'
      refine S_X10_sealOf_5 (by omega) (by omega) (fun g => ?_) (fun g => ?_)
      · obtain rfl : k = n.toNat := by omega
        exact S_X10_sealOf_34 ⟨rfl, rfl, rfl⟩
      have sr := slF_r (I a) k
      have tr := ht k (by omega) g
      have nx := ih (k + 1) (by omega) (by omega)
      rw [show ((k + 1 : Nat) : Int) = (k : Int) + 1 by omega, slF, ← Int.tmod_eq_emod_of_nonneg (show 0 ≤ 3 * slF (I a) k + I a k by omega)] at nx
      exact S_X10_sealOf_10 hk hl (by omega) (by omega) (fun g2 => by omega) (fun g2 => S_X10_sealOf_16 hk (by omega) hl (by omega) nx)
  exact S_X10_sealOf_0 (lp (n.toNat + 1) 0 (by omega) (by omega))
theorem c_checked {X : CX} {I R : PF} {a n : Int} (hk : kd MF a = 12) (hl : (ln MF a : Int) < 2147483648) (hn : 0 ≤ n ∧ n ≤ (ln MF a : Int)) (ht : ∀ k, 0 ≤ k → k < n → 0 ≤ I a k ∧ I a k ≤ 255) : CN X 0 mX11_checked [(2, a), (0, n)] I R (fun v I' R' => v.2 = slF (I a) n.toNat ∧ I' = I ∧ R' = R) := by
  refine callee_b (by decide +kernel) (Nat.le_of_ble_eq_true rfl) rfl ?_
  have lp : ∀ (f k : Nat), n.toNat - k < f → k ≤ n.toNat → PN X 0 mX11_checked 5 [(2, a), (0, n), (0, slF (I a) k), (0, (k : Int))] [] I R (fun v I' R' => v.2 = slF (I a) n.toNat ∧ I' = I ∧ R' = R) := by
    intro f
    induction f with
    | zero => intro k h; exact absurd h (Nat.not_lt_zero _)
    | succ f ih =>
      intro k hf hk'
      refine S_X11_checked_5 (by omega) (by omega) (fun g => ?_) (fun g => ?_)
      · obtain rfl : k = n.toNat := by omega
        exact S_X11_checked_28 ⟨rfl, rfl, rfl⟩
      have sr := slF_r (I a) k
      have tr := ht k (by omega) g
      have nx := ih (k + 1) (by omega) (by omega)
      rw [show ((k + 1 : Nat) : Int) = (k : Int) + 1 by omega, slF, ← Int.tmod_eq_emod_of_nonneg (show 0 ≤ 3 * slF (I a) k + I a k by omega)] at nx
      exact S_X11_checked_10 hk (by omega) hl (by omega) nx
  exact S_X11_checked_0 (lp (n.toNat + 1) 0 (by omega) (by omega))
theorem imB_p {K : PF} {q r : Int} (hq : 0 ≤ q) (hr : 0 ≤ r ∧ r < 6) : imB K (4 + 6 * q + r) = if r < 4 then K 348 (3 + 5 * q + r) else if r = 4 then K 348 (3 + 5 * q + 4) / 256 else K 348 (3 + 5 * q + 4) % 256 := by
  unfold imB
  rw [if_neg (by omega), if_neg (by omega), if_neg (by omega), if_neg (by omega), show (4 + 6 * q + r - 4) / 6 = q by omega, show (4 + 6 * q + r - 4) % 6 = r by omega]
/-- the image's cells, as told -/
def ImC (I : PF) (n : Int) (J : PF) : Prop := (∀ i, 0 ≤ i → i < n → J 305 i = imB I i) ∧ FR (fun x y => x = 305) I J
theorem c_ximage {X : CX} {I R : PF} {p : Int} (hs : Shp R) (hv : Vw p I) (hw : ∀ q, 0 ≤ q → q < I 339 4 → 0 ≤ I 348 (3 + 5 * q + 4) ∧ I 348 (3 + 5 * q + 4) ≤ 999) (hB : ∀ k, 0 ≤ k → k < 4 + 6 * I 339 4 → 0 ≤ imB I k ∧ imB I k ≤ 255) :
    CN X 1 mX10_image [(2, 64)] I R (fun v I' R' => v.2 = 5 + 6 * I 339 4 ∧ I' 64 19 = 5 + 6 * I 339 4 ∧ (∀ i, 0 ≤ i → i < 4 + 6 * I 339 4 → I' 305 i = imB I i) ∧ I' 305 (4 + 6 * I 339 4) = slF (imB I) (4 + 6 * I 339 4).toNat ∧ FR (fun x y => x = 305 ∨ (x = 64 ∧ y = 19)) I I' ∧ R' = R) := by
  refine callee_b (by decide +kernel) (Nat.le_of_ble_eq_true rfl) rfl ?_
  obtain ⟨-, ⟨s0, s1, s2, s3⟩, -, -, -, -, rr, sp, -⟩ := hv
  have n305 : (ln MF 305 : Int) = 41 := nM305
  have lp : ∀ (f : Nat) (q : Int) (J : PF), (I 339 4 - q).toNat < f → 0 ≤ q → q ≤ I 339 4 → ImC I (4 + 6 * q) J → PN X 1 mX10_image 65 [(2, 64), (0, 4 + 6 * q), (0, q)] [] J R (fun v I' R' => v.2 = 5 + 6 * I 339 4 ∧ I' 64 19 = 5 + 6 * I 339 4 ∧ (∀ i, 0 ≤ i → i < 4 + 6 * I 339 4 → I' 305 i = imB I i) ∧ I' 305 (4 + 6 * I 339 4) = slF (imB I) (4 + 6 * I 339 4).toNat ∧ FR (fun x y => x = 305 ∨ (x = 64 ∧ y = 19)) I I' ∧ R' = R) := by
    intro f
    induction f with
    | zero => intro q J h; exact absurd h (Nat.not_lt_zero _)
    | succ f ih =>
      intro q J hf q0 q1 hI
      obtain ⟨i1, i2⟩ := hI
      have e : ∀ x y, x ≠ 305 → J x y = I x y := i2
      have e3 : J 111 3 = I 339 4 := (e _ _ (by decide)).trans s3
      refine S_X10_image_65 hs (by omega) (by omega) (fun g => ?_) (fun g => ?_)
      · obtain rfl : q = I 339 4 := by omega
        refine S_X10_image_169 (d1 := 0) hs (by omega) (c_sealOf kM305 (by omega) (by omega) (fun k k0 k1 => by rw [i1 k k0 k1]; exact hB k k0 k1)) (fun z I3 R3 r => ?_)
        obtain ⟨(hz : z = _), rfl, rfl⟩ := r
        have hz' : z = slF (imB I) (4 + 6 * I 339 4).toNat := hz.trans (slF_cg _ (fun i i0 i1' => i1 i i0 (by omega)))
        rw [hz']
        refine S_X10_image_182 (by omega) ⟨?_, ?_, fun i i0 i1' => ?_, ?_, ((i2.mono (fun x y c => Or.inl c)).tr (FR_u2 (Or.inl rfl))).tr (FR_u2 (Or.inr ⟨rfl, rfl⟩)), rfl⟩
        · dsimp only; rw [u2_at]; omega
        · rw [u2_at]; omega
        · rw [u2_o (by decide), u2_j (by omega)]; exact i1 i i0 i1'
        · rw [u2_o (by decide), u2_at]
      rw [e3] at g
      have hne : (111 : Int) + 2 + q ≠ 305 := by omega
      have a := sp q q0 g
      rw [show (113 : Int) + q = 111 + 2 + q by omega] at a
      have ew : ∀ y, J (111 + 2 + q) y = I (111 + 2 + q) y := fun y => e _ _ hne
      have wr := hw q q0 g
      have S := @S_X10_image_76 X 1 (4 + 6 * q) q J R
      simp only [u2_o hne, ew] at S
      rw [a.1, a.2.1, a.2.2.2.2.2.1, a.2.2.2.2.2.2.1, a.2.2.2.2.2.2.2, shr_v (by unfold inR; omega) 8 (by decide), and255] at S
      refine S hs (by omega) (by omega) (by omega) (by omega) (by omega) (by omega) (by omega) ?_
      rw [show 4 + 6 * q + 6 = 4 + 6 * (q + 1) by omega]
      refine ih (q + 1) _ (by omega) (by omega) (by omega) ⟨fun i i0 i1' => ?_, (((((i2.tr (FR_u2 rfl)).tr (FR_u2 rfl)).tr (FR_u2 rfl)).tr (FR_u2 rfl)).tr (FR_u2 rfl)).tr (FR_u2 rfl)⟩
      by_cases c : i < 4 + 6 * q
      · rw [u2_j (by omega), u2_j (by omega), u2_j (by omega), u2_j (by omega), u2_j (by omega), u2_j (by omega)]; exact i1 i i0 c
      · rcases (show i = 4 + 6 * q ∨ i = 4 + 6 * q + 1 ∨ i = 4 + 6 * q + 2 ∨ i = 4 + 6 * q + 3 ∨ i = 4 + 6 * q + 4 ∨ i = 4 + 6 * q + 5 by omega) with rfl | rfl | rfl | rfl | rfl | rfl
        · rw [u2_j (by omega), u2_j (by omega), u2_j (by omega), u2_j (by omega), u2_j (by omega), u2_at]
          have := imB_p (K := I) q0 (r := 0) (by decide)
          rw [if_pos (by decide), Int.add_zero, Int.add_zero] at this
          exact this.symm
        · rw [u2_j (by omega), u2_j (by omega), u2_j (by omega), u2_j (by omega), u2_at, imB_p q0 (by decide), if_pos (by decide)]
        · rw [u2_j (by omega), u2_j (by omega), u2_j (by omega), u2_at, imB_p q0 (by decide), if_pos (by decide)]
        · rw [u2_j (by omega), u2_j (by omega), u2_at, imB_p q0 (by decide), if_pos (by decide)]
        · rw [u2_j (by omega), u2_at, imB_p q0 (by decide), if_neg (by decide), if_pos (by decide)]; rfl
        · rw [u2_at, imB_p q0 (by decide), if_neg (by decide), if_neg (by decide)]
  have h3 : (111 : Int) ≠ 305 := by decide
  have S := @S_X10_image_0 X 1 I R
  simp only [u2_o h3] at S
  rw [s0, s1, s2, shr_v (by unfold inR; omega) 8 (by decide), and255] at S
  refine S hs (lp _ 0 _ (Nat.lt_succ_self _) (by decide) (by omega) ⟨fun i i0 i1 => ?_, (((FR_u2 (P := fun x y => x = 305) rfl).tr (FR_u2 rfl)).tr (FR_u2 rfl)).tr (FR_u2 rfl)⟩)
  rcases (show i = 0 ∨ i = 1 ∨ i = 2 ∨ i = 3 by omega) with rfl | rfl | rfl | rfl
  · rw [u2_j (by decide), u2_j (by decide), u2_j (by decide), u2_at]; rfl
  · rw [u2_j (by decide), u2_j (by decide), u2_at]; rfl
  · rw [u2_j (by decide), u2_at]; rfl
  · rw [u2_at]; rfl
/-- the image's cells in the model -/
def ImM (I : PF) (n : Int) (J : PF) : Prop := J 306 114 = n ∧ (∀ i, 0 ≤ i → i < n → J 382 i = imB I i) ∧ FR (fun x y => x = 382 ∨ (x = 306 ∧ y = 114)) I J
theorem c_writes {X : CX} {I J R : PF} {n v : Int} (hs : Shp R) (hI : ImM I n J) (hn : 0 ≤ n ∧ n < 41) (hv : v = imB I n) : CN X 0 mX11_writes [(2, 306), (0, v)] J R (fun _ I' R' => ImM I (n + 1) I' ∧ R' = R) := by
  obtain ⟨i1, i2, i3⟩ := hI
  refine callee_b (by decide +kernel) (Nat.le_of_ble_eq_true rfl) rfl (S_X11_writes_0 hs (by omega) ⟨⟨?_, fun i i0 i1' => ?_, (i3.tr (FR_u2 (Or.inl rfl))).tr (FR_u2 (Or.inr ⟨rfl, rfl⟩))⟩, rfl⟩)
  · rw [u2_at, u2_o (by decide), i1]
  · rw [u2_o (by decide), i1]
    by_cases c : i = n
    · rw [c, u2_at]; exact hv
    · rw [u2_j c]; exact i2 i i0 (by omega)
theorem c_woreBy {X : CX} {I R : PF} {q : Int} (hs : Shp R) (hq : 0 ≤ q ∧ q < 6) : CN X 0 mX11_woreBy [(2, 306), (0, q)] I R (fun v I' R' => v.2 = I (348) (3 + 5 * q + 4) ∧ I' = I ∧ R' = R) := callee_b (by decide +kernel) (Nat.le_of_ble_eq_true rfl) rfl (S_X11_woreBy_0 hs (by omega) ⟨rfl, rfl, rfl⟩)
theorem tdiv256 {v : Int} (h : 0 ≤ v) : v.tdiv 256 = v / 256 := Int.tdiv_eq_ediv_of_nonneg h
theorem tmod256 {v : Int} (h : 0 ≤ v) : v.tmod 256 = v % 256 := Int.tmod_eq_emod_of_nonneg h
theorem c_mimage {X : CX} {I R : PF} (hs : Shp R) (hn : 0 ≤ I 339 4 ∧ I 339 4 ≤ 6) (h0 : 0 ≤ I 348 0 ∧ I 348 0 ≤ 999) (hw : ∀ q, 0 ≤ q → q < I 339 4 → 0 ≤ I 348 (3 + 5 * q + 4) ∧ I 348 (3 + 5 * q + 4) ≤ 999) (hB : ∀ k, 0 ≤ k → k < 4 + 6 * I 339 4 → 0 ≤ imB I k ∧ imB I k ≤ 255) :
    CN X 1 mX11_image [(2, 306)] I R (fun v I' R' => v.2 = 5 + 6 * I 339 4 ∧ I' 306 114 = 5 + 6 * I 339 4 ∧ (∀ i, 0 ≤ i → i < 4 + 6 * I 339 4 → I' 382 i = imB I i) ∧ I' 382 (4 + 6 * I 339 4) = slF (imB I) (4 + 6 * I 339 4).toNat ∧ FR (fun x y => x = 382 ∨ (x = 306 ∧ y = 114)) I I' ∧ R' = R) := by
  refine callee_b (by decide +kernel) (Nat.le_of_ble_eq_true rfl) rfl ?_
  have n382 : (ln MF 382 : Int) = 41 := nM382
  have n8 : ∀ {n J}, ImM I n J → ∀ y, J 348 y = I 348 y := fun h y => h.2.2 _ _ (by omega)
  have n9 : ∀ {n J}, ImM I n J → J 339 4 = I 339 4 := fun h => h.2.2 _ _ (by omega)
  have i0 : ImM I 0 (u2 I 306 114 0) := ⟨u2_at, fun i a b => by omega, FR_u2 (Or.inr ⟨rfl, rfl⟩)⟩
  have lp : ∀ (f : Nat) (q : Int) (J : PF), (I 339 4 - q).toNat < f → 0 ≤ q → q ≤ I 339 4 → ImM I (4 + 6 * q) J → PN X 1 mX11_image 57 [(2, 306), (0, q)] [] J R (fun v I' R' => v.2 = 5 + 6 * I 339 4 ∧ I' 306 114 = 5 + 6 * I 339 4 ∧ (∀ i, 0 ≤ i → i < 4 + 6 * I 339 4 → I' 382 i = imB I i) ∧ I' 382 (4 + 6 * I 339 4) = slF (imB I) (4 + 6 * I 339 4).toNat ∧ FR (fun x y => x = 382 ∨ (x = 306 ∧ y = 114)) I I' ∧ R' = R) := by
    intro f
    induction f with
    | zero => intro q J h; exact absurd h (Nat.not_lt_zero _)
    | succ f ih =>
      intro q J hf q0 q1 hI
      refine S_X11_image_57 (d1 := 0) (by omega) (c_personMany hs) (fun z J1 R1 r => ?_)
      obtain ⟨(hz : z = _), rfl, rfl⟩ := r
      rw [n9 hI] at hz
      rw [hz]
      refine S_X11_image_62 (by omega) (by omega) (fun g => ?_) (fun g => ?_)
      · obtain rfl : q = I 339 4 := by omega
        have e114 := hI.1
        refine S_X11_image_126 (d1 := 0) hs (by omega) (c_checked kM382 (by omega) (by omega) (fun k k0 k1 => by rw [hI.2.1 k k0 (by omega)]; exact hB k k0 (by omega))) (fun z3 I3 R3 r => ?_)
        obtain ⟨(hz3 : z3 = _), rfl, rfl⟩ := r
        rw [e114] at hz3
        have hz' : z3 = slF (imB I) (4 + 6 * I 339 4).toNat := hz3.trans (slF_cg _ (fun i i0 i1' => hI.2.1 i i0 (by omega)))
        rw [hz']
        refine S_X11_image_138 (d1 := 0) (by omega) (callee_b (by decide +kernel) (Nat.le_of_ble_eq_true rfl) rfl (S_X11_writes_0 (Q := fun _ I' R' => I' = u2 (u2 I3 382 (4 + 6 * I 339 4) (slF (imB I) (4 + 6 * I 339 4).toNat)) 306 114 (4 + 6 * I 339 4 + 1) ∧ R' = R3) hs (by omega) ⟨?_, rfl⟩)) (fun z4 I4 R4 r => ?_)
        · rw [u2_o (by decide), e114]
        obtain ⟨rfl, rfl⟩ := r
        refine S_X11_image_141 ⟨?_, ?_, fun i i0 i1' => ?_, ?_, (hI.2.2.tr (FR_u2 (Or.inl rfl))).tr (FR_u2 (Or.inr ⟨rfl, rfl⟩)), rfl⟩
        · dsimp only; rw [u2_at]; omega
        · rw [u2_at]; omega
        · rw [u2_o (by decide), u2_j (by omega)]; exact hI.2.1 i i0 i1'
        · rw [u2_o (by decide), u2_at]
      have wr := hw q q0 g
      have four : ∀ (f : Nat) (r : Int) (J : PF), (4 - r).toNat < f → 0 ≤ r → r ≤ 4 → ImM I (4 + 6 * q + r) J → PN X 1 mX11_image 67 [(2, 306), (0, q), (0, r)] [] J R1 (fun v I' R' => v.2 = 5 + 6 * I 339 4 ∧ I' 306 114 = 5 + 6 * I 339 4 ∧ (∀ i, 0 ≤ i → i < 4 + 6 * I 339 4 → I' 382 i = imB I i) ∧ I' 382 (4 + 6 * I 339 4) = slF (imB I) (4 + 6 * I 339 4).toNat ∧ FR (fun x y => x = 382 ∨ (x = 306 ∧ y = 114)) I I' ∧ R' = R1) := by
        intro f2
        induction f2 with
        | zero => intro r J h; exact absurd h (Nat.not_lt_zero _)
        | succ f2 ih2 =>
          intro r J hf2 r0 r1 hI2
          refine S_X11_image_67 (by omega) (fun g2 => ?_) (fun g2 => ?_)
          · obtain rfl : r = 4 := by omega
            refine S_X11_image_94 (d1 := 0) (by omega) (c_woreBy hs ⟨q0, by omega⟩) (fun z5 J5 R5 r => ?_)
            obtain ⟨(hz5 : z5 = _), rfl, rfl⟩ := r
            rw [n8 hI2] at hz5
            refine S_X11_image_100 (d1 := 0) (by omega) (by omega) (c_writes hs hI2 (by omega) (by rw [imB_p q0 (by decide), if_neg (by decide), if_pos rfl, tdiv256 (by omega), hz5])) (fun z6 J6 R6 r => ?_)
            obtain ⟨hI6, rfl⟩ := r
            refine S_X11_image_107 (d1 := 0) (by omega) (c_woreBy hs ⟨q0, by omega⟩) (fun z7 J7 R7 r => ?_)
            obtain ⟨(hz7 : z7 = _), rfl, rfl⟩ := r
            rw [n8 hI6] at hz7
            rw [show 4 + 6 * q + 4 + 1 = 4 + 6 * q + 5 by omega] at hI6
            refine S_X11_image_113 (d1 := 0) (by omega) (by omega) (c_writes hs hI6 (by omega) (by rw [imB_p q0 (by decide), if_neg (by decide), if_neg (by decide), tmod256 (by omega), hz7])) (fun z8 J8 R8 r => ?_)
            obtain ⟨hI8, rfl⟩ := r
            rw [show 4 + 6 * q + 5 + 1 = 4 + 6 * (q + 1) by omega] at hI8
            exact S_X11_image_120 (ih (q + 1) J8 (by omega) (by omega) (by omega) hI8)
          · refine S_X11_image_72 (d1 := 0) hs (by omega) (by omega) (c_writes hs hI2 (by omega) (by rw [imB_p q0 (by omega), if_pos g2]; exact n8 hI2 _)) (fun z5 J5 R5 r => ?_)
            obtain ⟨hI5, rfl⟩ := r
            rw [show 4 + 6 * q + r + 1 = 4 + 6 * q + (r + 1) by omega] at hI5
            exact S_X11_image_88 (ih2 (r + 1) J5 (by omega) (by omega) (by omega) hI5)
      exact S_X11_image_65 (four 5 0 J1 (by decide) (by decide) (by decide) (by rw [Int.add_zero]; exact hI))
  have u0 : (u2 I 306 114 0) 348 0 = I 348 0 := u2_o (by decide)
  refine S_X11_image_0 (d1 := 0) hs (by rw [u0]; omega) (by omega) (c_writes hs i0 (by decide) (by rw [u0, tdiv256 h0.1]; rfl)) (fun z1 J1 R1 r => ?_)
  obtain ⟨hI1, rfl⟩ := r
  have hI1 : ImM I 1 J1 := hI1
  refine S_X11_image_19 (d1 := 0) hs (by rw [n8 hI1]; omega) (by omega) (c_writes hs hI1 (by decide) (by rw [n8 hI1, tmod256 h0.1]; rfl)) (fun z2 J2 R2 r => ?_)
  obtain ⟨hI2, rfl⟩ := r
  have hI2 : ImM I 2 J2 := hI2
  refine S_X11_image_33 (d1 := 0) hs (by omega) (c_writes hs hI2 (by decide) (by rw [n8 hI2]; rfl)) (fun z3 J3 R3 r => ?_)
  obtain ⟨hI3, rfl⟩ := r
  have hI3 : ImM I 3 J3 := hI3
  refine S_X11_image_45 (d1 := 0) hs (by omega) (c_writes hs hI3 (by decide) (by rw [n8 hI3]; rfl)) (fun z4 J4 R4 r => ?_)
  obtain ⟨hI4, rfl⟩ := r
  exact S_X11_image_55 (lp _ 0 J4 (Nat.lt_succ_self _) (by decide) hn.1 hI4)
theorem imB_cg {K K' : PF} (h : ∀ y, K' 348 y = K 348 y) : imB K' = imB K := by
  funext i
  unfold imB
  simp only [h]
/-- octets of an image -/
theorem Sim.ib {I R : PF} (h : Sim I R) : (∀ q, 0 ≤ q → q < I 339 4 → 0 ≤ I 348 (3 + 5 * q + 4) ∧ I 348 (3 + 5 * q + 4) ≤ 999) ∧ ∀ k, 0 ≤ k → k < 4 + 6 * I 339 4 → 0 ≤ imB I k ∧ imB I k ≤ 255 := by
  obtain ⟨-, -, -, -, p, o, hp, hT⟩ := id h
  have hv := h.vw hp
  have rr := hv.2.2.2.2.2.2.1
  have low : ∀ k, 0 ≤ k → k < 4 → 0 ≤ imB I k ∧ imB I k ≤ 255 := fun k k0 k1 => by
    rcases (show k = 0 ∨ k = 1 ∨ k = 2 ∨ k = 3 by omega) with rfl | rfl | rfl | rfl
    · show 0 ≤ I 348 0 / 256 ∧ I 348 0 / 256 ≤ 255; omega
    · show 0 ≤ I 348 0 % 256 ∧ I 348 0 % 256 ≤ 255; omega
    · show 0 ≤ I 348 1 + 1 ∧ I 348 1 + 1 ≤ 255; omega
    · show 0 ≤ I 348 2 ∧ I 348 2 ≤ 255; omega
  rcases hT with hT | ⟨D, hT⟩
  · have e : I 339 4 = 0 := hT.2.2.2.1.2.1
    exact ⟨fun q q0 q1 => by omega, fun k k0 k1 => low k k0 (by omega)⟩
  obtain ⟨hG, hW, hQ, hL, hST, hK, -⟩ := hT
  have e4 : I 339 4 = D 339 1 := hST.sq.2.2.2.1
  have hd := hG.1
  refine ⟨fun q q0 q1 => (hK.2.2.2.2.2 q q0 (by omega)).2.2.2.2.2, fun k k0 k1 => ?_⟩
  by_cases c : k < 4
  · exact low k k0 c
  · obtain ⟨q, r, rfl, q0, q1, r0, r1⟩ : ∃ q r, k = 4 + 6 * q + r ∧ 0 ≤ q ∧ q < I 339 4 ∧ 0 ≤ r ∧ r < 6 := ⟨(k - 4) / 6, (k - 4) % 6, by omega, by omega, by omega, by omega, by omega⟩
    have a := hK.2.2.2.2.2 q q0 (by omega)
    have b := hK.2.2.2.1 q q0 (by omega)
    have b' : 0 ≤ I 348 (3 + 5 * q) ∧ I 348 (3 + 5 * q) < D 341 0 ∧ 0 ≤ I 348 (3 + 5 * q + 1) ∧ I 348 (3 + 5 * q + 1) < D 341 1 := b
    rw [imB_p q0 ⟨r0, r1⟩]
    rcases (show r = 0 ∨ r = 1 ∨ r = 2 ∨ r = 3 ∨ r = 4 ∨ r = 5 by omega) with rfl | rfl | rfl | rfl | rfl | rfl
    · rw [if_pos (by decide), Int.add_zero]; omega
    · rw [if_pos (by decide)]; omega
    · rw [if_pos (by decide)]; omega
    · rw [if_pos (by decide)]; omega
    · rw [if_neg (by decide), if_pos rfl]; omega
    · rw [if_neg (by decide), if_neg (by decide)]; omega
theorem b_image {X : CX} {I R : PF} (h : Sim I R) : Both X 1 1 mX10_image mX11_image [] I R := by
  obtain ⟨hs, -, hta, hm, p, o, hp, hT⟩ := id h
  have hv := h.vw hp
  have rr := hv.2.2.2.2.2.2.1
  obtain ⟨hw, hB⟩ := h.ib
  refine Callee.mono (c_ximage hs hv hw hB) (fun v I1 R1 r => ?_)
  obtain ⟨r1, r2, r3, r4, r5, rfl⟩ := r
  have e : ∀ x y, ¬ (x = 305 ∨ (x = 64 ∧ y = 19)) → I1 x y = I x y := r5
  have ei : imB I1 = imB I := imB_cg (fun y => e _ _ (by omega))
  have e4 : I1 339 4 = I 339 4 := e _ _ (by omega)
  refine Callee.mono (c_mimage hs (by rw [e4]; omega) (by rw [e _ _ (by omega)]; omega) (fun q q0 q1 => by rw [e _ _ (by omega)]; rw [e4] at q1; exact hw q q0 q1) (fun k k0 k1 => by rw [ei]; rw [e4] at k1; exact hB k k0 k1)) (fun v2 J R2 r => ?_)
  rw [e4, ei] at r
  obtain ⟨w1, w2, w3, w4, w5, rfl⟩ := r
  refine ⟨w1.trans r1.symm, ?_⟩
  have f : ∀ x y, ¬ (x = 382 ∨ (x = 306 ∧ y = 114)) → J x y = I1 x y := w5
  refine h.up hp ((r5.mono (fun x y c => Or.inr (Or.inr (by unfold smC; omega)))).tr (w5.mono (fun x y c => Or.inr (Or.inr (by unfold smC; omega))))) FR.rf (hta.cg (fun x y c => (f x y (by omega)).trans (e x y (by omega)))) ?_
  have g : ∀ x y, ¬ (x = 382 ∨ (x = 306 ∧ y = 114) ∨ x = 305 ∨ (x = 64 ∧ y = 19)) → J x y = I x y := fun x y c => (f x y (by omega)).trans (e x y (by omega))
  obtain ⟨a1, a2, a3, a4, a5, a6, a7, a8⟩ := hm
  refine ⟨fun j => by rw [g _ _ (by omega), g 308 _ (by omega)]; exact a1 j, ?_, ?_, ⟨?_, by omega, by omega, fun k k0 k1 => ?_⟩, by rw [g _ _ (by omega)]; exact a5, by rw [g _ _ (by omega)]; exact a6, by rw [g _ _ (by omega)]; exact a7, by rw [g _ _ (by omega)]; exact a8⟩
  · rw [g 64 3 (by omega), g 64 4 (by omega), g 306 7 (by omega), g 306 8 (by omega)]; exact a2
  · rw [g 303 0 (by omega), g 306 78 (by omega)]; exact a3
  · rw [f _ _ (by omega), r2, w2]
  · rw [w2] at k1
    rw [f 305 k (by omega)]
    by_cases c : k < 4 + 6 * I 339 4
    · rw [r3 k k0 c, w3 k k0 c]
    · rw [show k = 4 + 6 * I 339 4 by omega, r4, w4]
