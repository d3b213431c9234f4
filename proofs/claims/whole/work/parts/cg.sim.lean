/-! ===== both objects made: how all stands at the law's loop ===== -/
def endI : List (Int × Int × Int) := n_NoonHatModel_306_I n_NoonHat_64_I
def endR : List (Int × Int × Int) := n_NoonHatModel_306_R n_NoonHat_64_R
theorem ltI : Lt n_NoonHat_64_I 306 := by unfold Lt; decide +kernel
theorem ltR : Lt n_NoonHat_64_R 306 := by unfold Lt; decide +kernel
theorem law_0 {X : CX} {Q : PV → PF → PF → Prop} (k : PL X 38 mL_law 16 [(2, 42), (2, 64), (2, 306)] [] (wr endI) (wr endR) Q) : PW X 38 MF mL_law [] 0 [(2, 42)] [] (wr []) (wr []) [] Q := by
  suffices h : PW X 38 (MF.take 319) mL_law [] 0 [(2, 42)] [] (wr []) (wr []) (MF.take 0) Q by
    rw [tk_all] at h; exact h
  have hI : Lt [] 64 := Lt.nil
  have hR : Lt [] 64 := Lt.nil
  refine T_new (ci := 9) (N := 20) (c := 64) (n := 0) (q := 3) cOK9 (by decide +kernel) (tGp1 18 rfl rfl) (tGp1 19 rfl rfl) (tGp1 1 rfl rfl) (by decide +kernel) (by decide) (by decide) hI hR rfl (by decide +kernel) ?_
  refine P_dup (Nat.ne_of_beq_eq_false rfl) (q := 4) rfl (by decide +kernel) ?_
  refine T_ctor (ci := 9) (n' := 242) (d' := 3) (As := []) (q := 7) oX10_init rfl (by decide +kernel) (by decide) (Or.inl kL_9) (by decide) (by decide) (by decide) (by decide) n_NoonHat_64 rfl (by decide +kernel) ?_
  refine P_astore_n (n := 1) (by decide) (q := 8) rfl (by decide +kernel) ?_
  refine T_new (ci := 10) (N := 115) (c := 306) (n := 242) (q := 11) cOK10 (by decide +kernel) (tGp6 117 rfl rfl) (tGp5 173 rfl rfl) (tGp1 13 rfl rfl) (by decide +kernel) (by decide) (by decide) ltI ltR rfl (by decide +kernel) ?_
  refine P_dup (Nat.ne_of_beq_eq_false rfl) (q := 12) rfl (by decide +kernel) ?_
  refine T_ctor (ci := 10) (n' := 319) (d' := 1) (As := []) (q := 15) oX11_init rfl (by decide +kernel) (by decide) (Or.inl kL_12) (by decide) (by decide) (by decide) (by decide) (n_NoonHatModel_306 (ltI.up (by decide)) (ltR.up (by decide))) rfl (by decide +kernel) ?_
  refine P_astore_n (n := 2) (by decide) (q := 16) rfl (by decide +kernel) ?_
  rw [tk_all]
  exact k
theorem r8 : ∀ k : Nat, k < 319 → kd MF (64 + (k : Int)) = 8 → wr endR (64 + (k : Int)) 4 = 64 + (k : Int) + 1 ∧ ∀ p : Nat, p < 6 → wr endR (64 + (k : Int) + 1) (p : Int) = 64 + (k : Int) + 2 + (p : Int) := by decide +kernel
theorem r2 : ∀ k : Nat, k < 319 → kd MF (64 + (k : Int)) = 2 → wr endR (64 + (k : Int)) 0 = 64 + (k : Int) + 1 ∧ wr endR (64 + (k : Int)) 1 = 64 + (k : Int) + 2 := by decide +kernel
theorem r6 : ∀ k : Nat, k < 319 → kd MF (64 + (k : Int)) = 6 → wr endR (64 + (k : Int)) 8 = 64 + (k : Int) + 1 ∧ wr endR (64 + (k : Int)) 9 = 64 + (k : Int) + 2 ∧ wr endR (64 + (k : Int)) 10 = 64 + (k : Int) + 3 ∧ wr endR (64 + (k : Int)) 11 = 64 + (k : Int) + 4 ∧ wr endR (64 + (k : Int)) 12 = 64 + (k : Int) + 5 ∧ wr endR (64 + (k : Int)) 13 = 64 + (k : Int) + 8 ∧ wr endR (64 + (k : Int)) 14 = 64 + (k : Int) + 11 := by decide +kernel
theorem kd_k {o : Int} {c : Nat} (h : kd MF o = c) (hc : c < 20) : ∃ k : Nat, o = 64 + (k : Int) ∧ k < 319 := by
  obtain ⟨k, e, hk, -⟩ := kd_in h hc
  rw [show MF.length = 319 by decide +kernel] at hk
  exact ⟨k, e, hk⟩
theorem shp_0 : Shp (wr endR) := by
  refine ⟨by decide +kernel, fun o h => ?_, fun o h => ?_, fun o h => ?_⟩
  · obtain ⟨k, rfl, hk⟩ := kd_k h (by decide)
    obtain ⟨a, b⟩ := r8 k hk h
    refine ⟨a, fun p p0 p1 => ?_⟩
    have := b p.toNat (by omega)
    rw [Int.toNat_of_nonneg p0] at this
    exact this
  · obtain ⟨k, rfl, hk⟩ := kd_k h (by decide)
    exact r2 k hk h
  · obtain ⟨k, rfl, hk⟩ := kd_k h (by decide)
    exact r6 k hk h
theorem wc_0 : ∀ p ∈ wcs, (∀ i : Nat, i < ln MF p.1 → 97 ≤ wr endI p.1 (i : Int) ∧ wr endI p.1 (i : Int) ≤ 122) ∧ c6 (wr endI p.1) (ln MF p.1) = p.2 ∧ p.2 ≠ 0 := by decide +kernel
theorem cw_0 : CW (wr endI) := fun p hp => by
  obtain ⟨a, b, c⟩ := wc_0 p hp
  refine ⟨fun i i0 i1 => ?_, b, c⟩
  have := a i.toNat (by omega)
  rw [Int.toNat_of_nonneg i0] at this
  exact this
theorem z7_0 : Z7 (wr endI) := fun x hx => by
  have h : ∀ w ∈ endI, ¬ (85 ≤ w.1 ∧ w.1 ≤ 90 ∨ 104 ≤ w.1 ∧ w.1 ≤ 109) := by decide +kernel
  exact wr_0 (fun w hw e => h w hw (by rw [e]; exact hx)) 7
theorem row_0 {o : Int} (h : ∀ w ∈ endI, w.1 ≠ o) (j : Int) : wr endI o j = 0 := wr_0 h j
theorem tap_0 : Tap (wr endI) := by
  have a : ∀ j, wr endI 65 j = 0 := row_0 (by decide +kernel)
  have b : ∀ j, wr endI 307 j = 0 := row_0 (by decide +kernel)
  refine ⟨funext fun j => (a j).trans (b j).symm, by decide +kernel, by decide +kernel, by decide +kernel, fun j _ _ => ?_⟩
  rw [b]
  omega
theorem sml_0 : Sml (wr endI) := by
  have a : ∀ j, wr endI 66 j = 0 := row_0 (by decide +kernel)
  have b : ∀ j, wr endI 308 j = 0 := row_0 (by decide +kernel)
  have c : wr endI 306 114 = 0 := by decide +kernel
  refine ⟨fun j => (a j).trans (b j).symm, by decide +kernel, ⟨by decide +kernel, by unfold sdR; decide +kernel⟩, ⟨by decide +kernel, by decide +kernel, by decide +kernel, fun k k0 k1 => ?_⟩, by decide +kernel, ?_, by decide +kernel, by decide +kernel, by decide +kernel⟩
  · rw [c] at k1; omega
  · unfold bd; decide +kernel
theorem non_0 : Non 72 (wr endI) := by unfold Non; decide +kernel
theorem plc_0 : Plc (wr endR) 72 91 := ⟨by decide +kernel, by decide +kernel, Or.inl ⟨rfl, rfl⟩⟩
theorem sim_0 : Sim (wr endI) (wr endR) := ⟨shp_0, ⟨cw_0, z7_0⟩, tap_0, sml_0, 72, 91, plc_0, Or.inl non_0⟩
theorem law_pw {X : CX} (hL : xN X ≤ 3072) : PW X 38 MF mL_law [] 0 [(2, 42)] [] (wr []) (wr []) [] (fun v _ _ => v = (0, 1)) :=
  law_0 (S_L_law_16 (law_loop hL _ 0 _ _ (Nat.lt_succ_self _) (by omega) (by omega) sim_0))
