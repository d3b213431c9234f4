/-! ===== the people as the class holds them ===== -/
/-- all that K says of the people is in range -/
def KG (D K : PF) : Prop := (0 ≤ K 348 0 ∧ K 348 0 ≤ 999) ∧ (-1 ≤ K 348 1 ∧ K 348 1 < D 339 1) ∧ (0 ≤ K 348 2 ∧ K 348 2 ≤ 99) ∧ PIn D (P0 K) ∧ PDi D (P0 K) ∧
  ∀ p, 0 ≤ p → p < D 339 1 → (0 ≤ K 342 (24 + 4 * p) ∧ K 342 (24 + 4 * p) ≤ 9) ∧ (0 ≤ K 342 (25 + 4 * p) ∧ K 342 (25 + 4 * p) ≤ 2) ∧ (0 ≤ K 342 (26 + 4 * p) ∧ K 342 (26 + 4 * p) < D 339 0) ∧
    (0 ≤ K 348 (3 + 5 * p + 2) ∧ K 348 (3 + 5 * p + 2) ≤ 8) ∧ (0 ≤ K 348 (3 + 5 * p + 3) ∧ K 348 (3 + 5 * p + 3) ≤ 3) ∧ (0 ≤ K 348 (3 + 5 * p + 4) ∧ K 348 (3 + 5 * p + 4) ≤ 999)
theorem KG.kb {D K : PF} (h : KG D K) (hG : GD D) : KB D K := by
  obtain ⟨h1, h2, h3, -, -, h6⟩ := h
  have hD := hG.2.1
  refine ⟨by unfold inR; omega, fun p p0 p1 => ?_⟩
  obtain ⟨a1, a2, a3, a4, a5, a6⟩ := h6 p p0 p1
  refine ⟨a1, a2, fun k k0 k1 => ?_⟩
  rcases (show k = 2 ∨ k = 3 ∨ k = 4 ∨ k = 5 by omega) with rfl | rfl | rfl | rfl
  · show bd (K 342 (24 + 4 * p)); unfold bd; omega
  · show bd (K 342 (25 + 4 * p)); unfold bd; omega
  · show bd (K 348 (3 + 5 * p + 4)); unfold bd; omega
  · show bd (if K 348 1 = p then K 348 2 else 0)
    unfold bd; split <;> omega
/-- the class's cells of a state s tell K -/
def StC (D K : PF) (s : Int) (I : PF) : Prop := (I s 0 = K 348 0 ∧ I s 1 = K 348 1 ∧ I s 2 = K 348 2 ∧ I s 3 = D 339 1) ∧
  ∀ p, 0 ≤ p → p < D 339 1 → I (s + 2 + p) 0 = K 348 (3 + 5 * p) ∧ I (s + 2 + p) 1 = K 348 (3 + 5 * p + 1) ∧ I (s + 2 + p) 2 = K 342 (24 + 4 * p) ∧ I (s + 2 + p) 3 = K 342 (25 + 4 * p) ∧ I (s + 2 + p) 4 = K 342 (26 + 4 * p) ∧ I (s + 2 + p) 5 = K 348 (3 + 5 * p + 2) ∧ I (s + 2 + p) 6 = K 348 (3 + 5 * p + 3) ∧ I (s + 2 + p) 7 = K 348 (3 + 5 * p + 4)
theorem StC.fr {D K : PF} {s : Int} {I I' : PF} (h : StC D K s I) (hn : 0 ≤ D 339 1 ∧ D 339 1 ≤ 6) (f : ∀ x y, stC s x y → I' x y = I x y) : StC D K s I' := by
  obtain ⟨⟨a1, a2, a3, a4⟩, h2⟩ := h
  have e : ∀ y, 0 ≤ y → y ≤ 3 → I' s y = I s y := fun y y0 y1 => f s y (Or.inl ⟨rfl, y0, y1⟩)
  refine ⟨⟨by rw [e 0 (by decide) (by decide)]; exact a1, by rw [e 1 (by decide) (by decide)]; exact a2, by rw [e 2 (by decide) (by decide)]; exact a3, by rw [e 3 (by decide) (by decide)]; exact a4⟩, fun p p0 p1 => ?_⟩
  have g : ∀ y, 0 ≤ y → y < 8 → I' (s + 2 + p) y = I (s + 2 + p) y := fun y y0 y1 => f _ y (Or.inr ⟨by omega, by omega, y0, y1⟩)
  rw [g 0 (by decide) (by decide), g 1 (by decide) (by decide), g 2 (by decide) (by decide), g 3 (by decide) (by decide), g 4 (by decide) (by decide), g 5 (by decide) (by decide), g 6 (by decide) (by decide), g 7 (by decide) (by decide)]
  exact h2 p p0 p1
/-- taken, once the first k people stand -/
def TkK (D : PF) (P : Int → Int × Int) (m : Int) (I : PF) : Prop := ∀ x y, 0 ≤ x → x < 9 → 0 ≤ y → y < 9 → (I 130 (9 * y + x) ≠ 0 ↔ wlT D x y ∨ ∃ k, 0 ≤ k ∧ k < m ∧ (P k).1 = x ∧ (P k).2 = y)
theorem gat_loop {X : CX} {d : Nat} {R : PF} {Q : PV → PF → PF → Prop} {I0 : PF} {s : Int} {D K : PF} (hs : Shp R) (hr1 : R 127 1 = s) (hss : s = 111 ∨ s = 119) (hG : GD D) (hI : PIn D (P0 K)) (hS : StC D K s I0)
    (hQ : ∀ I', ClA D (P0 K) I' → FR mSt1 I0 I' → Q (9, 0) I' R) : ∀ (m : Nat) (k : Int) (I : PF), (D 339 1 - k).toNat < m → 0 ≤ k → k ≤ D 339 1 → ClP k (P0 K) I → TkK D (P0 K) k I → T01 I → FR mSt1 I0 I →
    PN X d mX1_gather 20 [(2, 127), (0, k)] [] I R Q := by
  intro m
  obtain ⟨⟨a1, a2, a3, a4, -⟩, ⟨-, -, r3, r4, -⟩, -⟩ := id hG
  have ks : kd MF s = 8 := by rcases hss with rfl | rfl <;> decide +kernel
  induction m with
  | zero => intro k I h; exact absurd h (Nat.not_lt_zero _)
  | succ m ih =>
    intro k I hm k0 kn hC hT h01 hf
    have e3 : I s 3 = D 339 1 := by rw [hf _ _ (fun c => by unfold mSt1 at c; omega)]; exact hS.1.2.2.2
    refine S_X1_gather_20 hr1 ks (by omega) (by omega) (fun g => ?_) (fun g => ?_)
    · have : k = D 339 1 := by omega
      subst this
      exact S_X1_gather_93 (hQ I ⟨hC, hT, h01⟩ hf)
    obtain ⟨p1, p2, -⟩ := hS.2 k k0 (by omega)
    have e1 : I (s + 2 + k) 0 = (P0 K k).1 := by rw [hf _ _ (fun c => by unfold mSt1 at c; omega)]; exact p1
    have e2 : I (s + 2 + k) 1 = (P0 K k).2 := by rw [hf _ _ (fun c => by unfold mSt1 at c; omega)]; exact p2
    obtain ⟨i1, i2, i3, i4⟩ := hI k k0 (by omega)
    have w9 : (u2 (u2 I 128 k (I (s + 2 + k) 0)) 129 k ((u2 I 128 k (I (s + 2 + k) 0)) (s + 2 + k) 1)) 129 k = (P0 K k).2 := by rw [u2_at, u2_o (by omega)]; exact e2
    have w8 : (u2 (u2 I 128 k (I (s + 2 + k) 0)) 129 k ((u2 I 128 k (I (s + 2 + k) 0)) (s + 2 + k) 1)) 128 k = (P0 K k).1 := by rw [u2_o (by decide), u2_at]; exact e1
    refine S_X1_gather_31 hs hr1 ks (by omega) (by rw [w9, w8]; omega) ?_
    rw [w9, w8]
    have f1 : FR mSt1 I (u2 (u2 I 128 k (I (s + 2 + k) 0)) 129 k ((u2 I 128 k (I (s + 2 + k) 0)) (s + 2 + k) 1)) := (FR_u2 (Or.inl rfl)).tr (FR_u2 (Or.inr (Or.inl rfl)))
    have v8 : ∀ p, p ≠ k → (u2 (u2 I 128 k (I (s + 2 + k) 0)) 129 k ((u2 I 128 k (I (s + 2 + k) 0)) (s + 2 + k) 1)) 128 p = I 128 p := fun p c => by rw [u2_o (by decide), u2_j c]
    have v9 : ∀ p, p ≠ k → (u2 (u2 I 128 k (I (s + 2 + k) 0)) 129 k ((u2 I 128 k (I (s + 2 + k) 0)) (s + 2 + k) 1)) 129 p = I 129 p := fun p c => by rw [u2_j c, u2_o (by decide)]
    have v0 : ∀ j, (u2 (u2 I 128 k (I (s + 2 + k) 0)) 129 k ((u2 I 128 k (I (s + 2 + k) 0)) (s + 2 + k) 1)) 130 j = I 130 j := fun j => by rw [u2_o (by decide), u2_o (by decide)]
    generalize u2 (u2 I 128 k (I (s + 2 + k) 0)) 129 k ((u2 I 128 k (I (s + 2 + k) 0)) (s + 2 + k) 1) = J at *
    refine ih (k + 1) _ (by omega) (by omega) (by omega) (fun p p0 p1 => ?_) (fun x y x0 x1 y0 y1 => ?_) (fun j j0 j1 => ?_) (hf.tr (f1.tr (FR_u2 (Or.inr (Or.inr rfl)))))
    · rw [u2_o (by decide), u2_o (by decide)]
      by_cases c : p = k
      · rw [c]; exact ⟨w8, w9⟩
      · rw [v8 p c, v9 p c]; exact hC p p0 (by omega)
    · by_cases b : x = (P0 K k).1 ∧ y = (P0 K k).2
      · rw [b.1, b.2, u2_at]
        exact ⟨fun _ => Or.inr ⟨k, k0, by omega, rfl, rfl⟩, fun _ => by decide⟩
      · rw [u2_j (by omega), v0]
        refine (hT x y x0 x1 y0 y1).trans ⟨fun c => ?_, fun c => ?_⟩
        · rcases c with c | ⟨i, i0, i1, i2⟩
          · exact Or.inl c
          · exact Or.inr ⟨i, i0, by omega, i2⟩
        · rcases c with c | ⟨i, i0, i1, i2, i3⟩
          · exact Or.inl c
          · by_cases e : i = k
            · rw [e] at i2 i3; exact absurd ⟨i2.symm, i3.symm⟩ b
            · exact Or.inr ⟨i, i0, by omega, i2, i3⟩
    · have := h01 j j0 j1
      by_cases c : j = 9 * (P0 K k).2 + (P0 K k).1
      · rw [c, u2_at]; exact Or.inr rfl
      · rw [u2_j c, v0]; exact this
theorem c_gather {X : CX} {I R : PF} {o s : Int} {D K : PF} (hs : Shp R) (ho : R 127 0 = o) (hk : kd MF o = 6) (hr1 : R 127 1 = s) (hss : s = 111 ∨ s = 119) (hQR : QR D o I) (hG : GD D) (hI : PIn D (P0 K)) (hS : StC D K s I) :
    CN X 1 mX1_gather [(2, 127)] I R (fun _ I' R' => ClA D (P0 K) I' ∧ FR mSt1 I I' ∧ R' = R) := by
  refine callee_b (by decide +kernel) (Nat.le_of_ble_eq_true rfl) rfl ?_
  have ho9 := sq_o hk
  obtain ⟨-, -, -, -, q5, q6, -⟩ := id hQR
  refine S_X1_gather_0 hs ho hk (by omega) (by omega) ?_
  have f0 : FR mSt1 I (fun x j => if x = 130 ∧ 0 ≤ j ∧ j < 0 + 81 then I (o + 3) (0 + (j - 0)) else I x j) := fun x y c => by
    show (if _ then _ else _) = _
    rw [if_neg (fun k => c (Or.inr (Or.inr k.1)))]
  have v : ∀ j, 0 ≤ j → j < 81 → (fun x j => if x = 130 ∧ 0 ≤ j ∧ j < 0 + 81 then I (o + 3) (0 + (j - 0)) else I x j) 130 j = I (o + 3) j := fun j j0 j1 => by
    show (if _ then _ else _) = _
    rw [if_pos (by omega), show 0 + (j - 0) = j by omega]
  generalize (fun x j => if x = 130 ∧ 0 ≤ j ∧ j < 0 + 81 then I (o + 3) (0 + (j - 0)) else I x j) = J at f0 v
  have hD := hG.2.1
  refine gat_loop (I0 := J) hs hr1 hss hG hI (hS.fr ⟨by omega, by omega⟩ (fun x y c => f0 x y (fun k => by unfold mSt1 at k; unfold stC at c; omega))) (fun I' a b => ⟨a, f0.tr b, rfl⟩) _ 0 J (Nat.lt_succ_self _) (Int.le_refl _) (by omega) (fun p p0 p1 => by omega) (fun x y x0 x1 y0 y1 => ?_) (fun j j0 j1 => ?_) FR.rf
  · rw [v _ (by omega) (by omega), q6 x y x0 x1 y0 y1]
    refine ⟨fun c => Or.inl c, fun c => ?_⟩
    rcases c with c | ⟨k, k0, k1, -⟩
    · exact c
    · omega
  · rw [v j j0 j1]; exact q5 j j0 j1
