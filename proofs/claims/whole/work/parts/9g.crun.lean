/-! ===== the class's step, and how far one runs ===== -/
theorem stp_0 {D : PF} {h : Int × Int} {P : Int → Int × Int} {p : Int} (c0 : stw D P h p = 0) : stp D h P p = P := by
  funext k
  unfold stp updP
  by_cases c : k = p
  · rw [if_pos c, c0, stT_0, c]
  · rw [if_neg c]
theorem stp_p {D : PF} {h : Int × Int} {P : Int → Int × Int} {p : Int} : stp D h P p p = stT (P p) (stw D P h p) := by unfold stp updP; rw [if_pos rfl]
theorem stp_k {D : PF} {h : Int × Int} {P : Int → Int × Int} {p k : Int} (c : k ≠ p) : stp D h P p k = P k := by unfold stp updP; rw [if_neg c]
theorem c_step {X : CX} {I R : PF} {o p : Int} {D : PF} {h : Int × Int} {P : Int → Int × Int} (hs : Shp R) (ho : R 127 0 = o) (hk : kd MF o = 6) (hQR : QR D o I) (hG : GD D) (hP : ClP (D 339 1) P I) (hT : Tkn D P I) (h01 : T01 I) (hI : PIn D P) (hp : 0 ≤ p ∧ p < D 339 1) (hq : inQ D h) (h1 : I 127 3 = h.1) (h2 : I 127 4 = h.2) (hd : PDi D P) :
    CN X 2 mX1_step [(2, 127), (0, p)] I R (fun v I' R' => v.2 = bi (stw D P h p ≠ 0) ∧ ClP (D 339 1) (stp D h P p) I' ∧ Tkn D (stp D h P p) I' ∧ T01 I' ∧ FR mSt1 I I' ∧ R' = R) := by
  refine callee_b (by decide +kernel) (Nat.le_of_ble_eq_true rfl) rfl ?_
  obtain ⟨⟨a1, a2, a3, a4, -⟩, ⟨-, -, r3, r4, -⟩, -⟩ := id hG
  obtain ⟨e1, e2⟩ := hP p hp.1 hp.2
  obtain ⟨i1, i2, i3, i4⟩ := hI p hp.1 hp.2
  obtain ⟨j1, j2, j3, j4⟩ := id hq
  refine S_X1_step_0 (d1 := 1) hs (by omega) (by omega) (by rw [e1, e2]; exact c_farFromHat h1 h2 (by omega) (by omega) (by omega)) (fun z I1 R1 q => ?_)
  obtain ⟨(hz : z = far h (P p)), rfl, rfl⟩ := q
  rw [hz]
  refine S_X1_step_16 (cst_loop (P := P) hs (Nat.le_refl _) ho hk hQR hG hP hT h01 hI hp hq h1 h2 (fun c0 => ?_) (fun c0 => ?_) _ 1 (Nat.lt_succ_self _) (by decide) (by decide) (fun j j0 j1 => by omega))
  · rw [stp_0 c0]
    exact ⟨(bi_f (fun c => c c0)).symm, hP, hT, h01, FR.rf, rfl⟩
  have hN : Nr D P h p (stw D P h p - 1) := by
    unfold stw at c0 ⊢
    rcases fI_fst (Nr D P h p) 8 with ⟨b1, b2⟩ | ⟨b1, b2, b3, b4⟩
    · omega
    · rw [show fI (Nr D P h p) 8 + 1 - 1 = fI (Nr D P h p) 8 by omega]; exact b3
  obtain ⟨⟨⟨n1, n2, n3, n4⟩, n5, n6⟩, n7⟩ := hN
  have sp : stp D h P p p = stT (P p) (stw D P h p) := stp_p
  have sk : ∀ k, k ≠ p → stp D h P p k = P k := fun k c => stp_k c
  rw [show stw D P h p - 1 + 1 = stw D P h p by omega] at n1 n2 n3 n4 n5 n6 n7
  have hne : ¬ ((stT (P p) (stw D P h p)).1 = (P p).1 ∧ (stT (P p) (stw D P h p)).2 = (P p).2) := fun c => by
    rw [show stT (P p) (stw D P h p) = P p from Prod.ext c.1 c.2] at n7; omega
  have c1 : (bi (stw D P h p ≠ 0)) = 1 := bi_t c0
  rw [c1]
  have hd2 := hd.2 p hp.1 hp.2
  have hd1 := hd.1
  simp only at n1 n2 n3 n4
  generalize stp D h P p = S at sp sk ⊢
  generalize stT (P p) (stw D P h p) = q1 at *
  have hS : ∀ x y k, (S k).1 = x → (S k).2 = y → k = p ∧ x = q1.1 ∧ y = q1.2 ∨ k ≠ p ∧ (P k).1 = x ∧ (P k).2 = y := fun x y k h3 h4 => by
    by_cases c : k = p
    · rw [c, sp] at h3 h4; exact Or.inl ⟨c, h3.symm, h4.symm⟩
    · rw [sk k c] at h3 h4; exact Or.inr ⟨c, h3, h4⟩
  refine ⟨rfl, fun k k0 k1 => ?_, fun x y x0 x1 y0 y1 => ?_, fun j j0 j1 => ?_, ((FR_u2 (Or.inr (Or.inr rfl))).tr (FR_u2 (Or.inl rfl))).tr ((FR_u2 (Or.inr (Or.inl rfl))).tr (FR_u2 (Or.inr (Or.inr rfl)))), rfl⟩
  · obtain ⟨g1, g2⟩ := hP k k0 k1
    by_cases c : k = p
    · rw [c, sp, u2_o (by decide), u2_o (by decide), u2_at, u2_o (by decide), u2_at]; exact ⟨rfl, rfl⟩
    · rw [sk k c, u2_o (by decide), u2_o (by decide), u2_j c, u2_o (by decide), u2_o (by decide), u2_j c, u2_o (by decide), u2_o (by decide)]; exact ⟨g1, g2⟩
  · have ht := hT x y x0 x1 y0 y1
    by_cases b : x = q1.1 ∧ y = q1.2
    · rw [b.1, b.2, u2_at]
      exact ⟨fun _ => Or.inr ⟨p, hp.1, hp.2, by rw [sp], by rw [sp]⟩, fun _ => by decide⟩
    · rw [u2_j (by omega), u2_o (by decide), u2_o (by decide)]
      by_cases a : x = (P p).1 ∧ y = (P p).2
      · rw [a.1, a.2, u2_at]
        refine ⟨fun c => absurd rfl c, fun c => ?_⟩
        rcases c with c | ⟨k, k0, k1, k2, k3⟩
        · exact absurd c hd2
        · rcases hS _ _ k k2 k3 with ⟨c1, c2, c3⟩ | ⟨c1, c2, c3⟩
          · exact absurd ⟨a.1.trans c2, a.2.trans c3⟩ b
          · exact absurd ⟨c2, c3⟩ (hd1 k p k0 k1 hp.1 hp.2 c1)
      · rw [u2_j (by omega)]
        refine ht.trans ⟨fun c => ?_, fun c => ?_⟩
        · rcases c with c | ⟨k, k0, k1, k2, k3⟩
          · exact Or.inl c
          · refine Or.inr ⟨k, k0, k1, ?_⟩
            by_cases e : k = p
            · rw [e] at k2 k3; exact absurd ⟨k2.symm, k3.symm⟩ a
            · rw [sk k e]; exact ⟨k2, k3⟩
        · rcases c with c | ⟨k, k0, k1, k2, k3⟩
          · exact Or.inl c
          · rcases hS _ _ k k2 k3 with ⟨c1, c2, c3⟩ | ⟨c1, c2, c3⟩
            · exact absurd ⟨c2, c3⟩ b
            · exact Or.inr ⟨k, k0, k1, c2, c3⟩
  · have := h01 j j0 j1
    unfold u2
    simp only
    repeat' split
    all_goals omega
theorem itp_fix {D : PF} {h : Int × Int} {p : Int} {P : Int → Int × Int} {k : Nat} (h0 : stw D (itp D h p k P) h p = 0) : ∀ j : Nat, itp D h p (k + j) P = itp D h p k P
  | 0 => rfl
  | j + 1 => by
    show stp D h (itp D h p (k + j) P) p = _
    rw [itp_fix h0 j, stp_0 h0]
theorem itp_PDi {D : PF} {h : Int × Int} {p : Int} {P : Int → Int × Int} (hP : PDi D P) (hp : 0 ≤ p ∧ p < D 339 1) : ∀ k : Nat, PDi D (itp D h p k P)
  | 0 => hP
  | k + 1 => stp_PDi (itp_PDi hP hp k) hp
/-- where the class's people are amid a flight -/
def ClA (D : PF) (P : Int → Int × Int) (I : PF) : Prop := ClP (D 339 1) P I ∧ Tkn D P I ∧ T01 I
theorem ClA.fr {D : PF} {P : Int → Int × Int} {I I' : PF} (h : ClA D P I) (f : ∀ x, (x = 128 ∨ x = 129 ∨ x = 130) → ∀ y, I' x y = I x y) : ClA D P I' := by
  obtain ⟨h1, h2, h3⟩ := h
  refine ⟨fun p p0 p1 => ?_, fun x y x0 x1 y0 y1 => ?_, fun j j0 j1 => ?_⟩
  · rw [f 128 (by decide), f 129 (by decide)]; exact h1 p p0 p1
  · rw [f 130 (by decide)]; exact h2 x y x0 x1 y0 y1
  · rw [f 130 (by decide)]; exact h3 j j0 j1
theorem QR.s1 {D I I' : PF} {o : Int} (hk : kd MF o = 6) (hG : GD D) (h : QR D o I) (f : FR mSt1 I I') : QR D o I' := by
  have ho := sq_o hk
  exact h.fr (fun x h1 h2 => funext fun y => f x y (fun c => by unfold mSt1 at c; omega)) hG
theorem crun_loop {X : CX} {d : Nat} {R : PF} {Q : PV → PF → PF → Prop} {I0 : PF} {o s p c : Int} {D : PF} {h : Int × Int} {P : Int → Int × Int} (hs : Shp R) (hd : 3 ≤ d) (ho : R 127 0 = o) (hk : kd MF o = 6) (hr1 : R 127 1 = s) (hss : s = 111 ∨ s = 119) (hG : GD D) (hI : PIn D P) (hp : 0 ≤ p ∧ p < D 339 1) (hq : inQ D h) (hPD : PDi D P) (hc : 0 ≤ c ∧ c ≤ 2) (hc0 : I0 (s + 2 + p) 3 = c) (h1 : I0 127 3 = h.1) (h2 : I0 127 4 = h.2)
    (hQ : ∀ I', ClA D (itp D h p c.toNat P) I' → FR mSt1 I0 I' → Q (9, 0) I' R) : ∀ (m k : Nat) (I : PF), c.toNat - k < m → (k : Int) ≤ c → QR D o I → ClA D (itp D h p k P) I → FR mSt1 I0 I →
    PN X d mX1_run 2 [(2, 127), (0, p), (0, (k : Int))] [] I R Q := by
  intro m
  have hD := hG.2.1
  have ks : kd MF s = 8 := by rcases hss with rfl | rfl <;> decide +kernel
  induction m with
  | zero => intro k I h; exact absurd h (Nat.not_lt_zero _)
  | succ m ih =>
    intro k I hm hk' hR hA hf
    have e4 : I (s + 2 + p) 3 = c := by rw [hf _ _ (fun c => by unfold mSt1 at c; omega)]; exact hc0
    have e1 : I 127 3 = h.1 := by rw [hf _ _ (fun c => by unfold mSt1 at c; omega)]; exact h1
    have e2 : I 127 4 = h.2 := by rw [hf _ _ (fun c => by unfold mSt1 at c; omega)]; exact h2
    refine S_X1_run_2 hs hr1 ks (by omega) (by omega) (by omega) (fun g => ?_) (fun g => ?_)
    · refine S_X1_run_32 (hQ I ?_ hf)
      rw [show c.toNat = k by omega]; exact hA
    refine S_X1_run_17 (d1 := 2) (by omega) (c_step hs ho hk hR hG hA.1 hA.2.1 hA.2.2 (itp_in hI k) hp hq e1 e2 (itp_PDi hPD hp k)) (fun z I1 R1 q => ?_)
    obtain ⟨(hz : z = _), q1, q2, q3, q4, rfl⟩ := q
    have br := bi_r (stw D (itp D h p k P) h p ≠ 0)
    refine S_X1_run_22 (by omega) (fun g2 => ?_) (fun g2 => ?_)
    · refine S_X1_run_26 ?_
      have := ih (k + 1) I1 (by omega) (by omega) (hR.s1 hk hG q4) ⟨q1, q2, q3⟩ (hf.tr q4)
      rw [show ((k + 1 : Nat) : Int) = (k : Int) + 1 by omega] at this
      exact this
    · have c0 : stw D (itp D h p k P) h p = 0 := Decidable.byContradiction (fun c => bi_0 (hz.symm.trans g2) c)
      refine S_X1_run_25 (hQ I1 ?_ (hf.tr q4))
      have e : itp D h p c.toNat P = itp D h p k P := by
        have := itp_fix c0 (c.toNat - k)
        rw [show k + (c.toNat - k) = c.toNat by omega] at this
        exact this
      rw [e]
      rw [stp_0 c0] at q1 q2
      exact ⟨q1, q2, q3⟩
theorem c_run {X : CX} {I R : PF} {o s p c : Int} {D : PF} {h : Int × Int} {P : Int → Int × Int} (hs : Shp R) (ho : R 127 0 = o) (hk : kd MF o = 6) (hr1 : R 127 1 = s) (hss : s = 111 ∨ s = 119) (hQR : QR D o I) (hG : GD D) (hA : ClA D P I) (hI : PIn D P) (hp : 0 ≤ p ∧ p < D 339 1) (hq : inQ D h) (hPD : PDi D P) (hc : 0 ≤ c ∧ c ≤ 2) (hc0 : I (s + 2 + p) 3 = c) (h1 : I 127 3 = h.1) (h2 : I 127 4 = h.2) :
    CN X 3 mX1_run [(2, 127), (0, p)] I R (fun _ I' R' => ClA D (itp D h p c.toNat P) I' ∧ FR mSt1 I I' ∧ R' = R) := by
  refine callee_b (by decide +kernel) (Nat.le_of_ble_eq_true rfl) rfl ?_
  exact S_X1_run_0 (crun_loop (I0 := I) (P := P) (h := h) hs (Nat.le_refl _) ho hk hr1 hss hG hI hp hq hPD hc hc0 h1 h2 (fun I' a b => ⟨a, b, rfl⟩) _ 0 I (Nat.lt_succ_self _) hc.1 hQR hA FR.rf)
