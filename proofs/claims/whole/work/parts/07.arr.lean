/-! ===== arrays, statics, what is made ===== -/
section
variable {X : CX} {d : Nat} {Me Ms : PM} {md : MD} {pc q : Nat} {ls st : List PV} {I R : PF} {M : PM} {Q : PV → PF → PF → Prop}
theorem i_natZ {i : Int} (h : 0 ≤ w32 i) : (((Int32.ofInt i).toNatClampNeg : Nat) : Int) = w32 i := by rw [i_nat]; exact Int.toNat_of_nonneg h
theorem P_iaload {a i : Int} (hk : kd M a = 12) (hi : 0 ≤ w32 i ∧ w32 i < ln M a) (hq : pc + 1 = q) (hd : decode md.2.1 pc = .ok (.iaload, 1)) (k : PW X d Me md Ms q ls ((0, I a (w32 i)) :: st) I R M Q) : PW X d Me md Ms pc ls ((0, i) :: (2, a) :: st) I R M Q := by
  intro p e s m args below meth c Rm hC H locs cells slots lsm hP hS hl h1 h2
  subst hq
  obtain ⟨k9, rfl, hk9, hM⟩ := kd_in hk (by decide)
  have kk := k p e s m args below meth c Rm hC H locs cells slots lsm hP hS hl h1 h2
  have hg := wld_get (X := X) (I := I) (R := R) hk9
  rw [cellE_12 hM] at hg
  rw [List.map_cons, List.map_cons, pv_k]
  rw [List.map_cons, show pv X (0, I (64 + (k9 : Int)) (w32 i)) = .int (Int32.ofInt (I (64 + (k9 : Int)) ((Int32.ofInt i).toNatClampNeg : Int))) from congrArg (fun z : Int => Value.int (Int32.ofInt (I (64 + (k9 : Int)) z))) (i_natZ hi.1).symm] at kk
  exact va_iald (D := xD X) (cl := vwCl) hC.1 hC.2.1 hC.2.2.2.2.2.2.1.1 hP k9 0 hg rfl (i_in hi.1 hi.2) hd kk
theorem P_caload {a i : Int} (hk : kd M a = 14) (hi : 0 ≤ w32 i ∧ w32 i < ln M a) (hq : pc + 1 = q) (hd : decode md.2.1 pc = .ok (.caload, 1)) (k : PW X d Me md Ms q ls ((0, I a (w32 i)) :: st) I R M Q) : PW X d Me md Ms pc ls ((0, i) :: (2, a) :: st) I R M Q := by
  intro p e s m args below meth c Rm hC H locs cells slots lsm hP hS hl h1 h2
  subst hq
  obtain ⟨k9, rfl, hk9, hM⟩ := kd_in hk (by decide)
  have kk := k p e s m args below meth c Rm hC H locs cells slots lsm hP hS hl h1 h2
  have hg := wld_get (X := X) (I := I) (R := R) hk9
  rw [cellE_14 hM] at hg
  rw [List.map_cons, List.map_cons, pv_k]
  rw [List.map_cons, show pv X (0, I (64 + (k9 : Int)) (w32 i)) = .int (Int32.ofInt (I (64 + (k9 : Int)) ((Int32.ofInt i).toNatClampNeg : Int))) from congrArg (fun z : Int => Value.int (Int32.ofInt (I (64 + (k9 : Int)) z))) (i_natZ hi.1).symm] at kk
  exact va_cald (D := xD X) (cl := vwCl) hC.1 hC.2.1 hC.2.2.2.2.2.2.1.1 hP k9 2 hg rfl (i_in hi.1 hi.2) hd kk
theorem P_laload {a i : Int} (hk : kd M a = 13) (hi : 0 ≤ w32 i ∧ w32 i < ln M a) (hq : pc + 1 = q) (hd : decode md.2.1 pc = .ok (.laload, 1)) (k : PW X d Me md Ms q ls ((1, I a (w32 i)) :: st) I R M Q) : PW X d Me md Ms pc ls ((0, i) :: (2, a) :: st) I R M Q := by
  intro p e s m args below meth c Rm hC H locs cells slots lsm hP hS hl h1 h2
  subst hq
  obtain ⟨k9, rfl, hk9, hM⟩ := kd_in hk (by decide)
  have kk := k p e s m args below meth c Rm hC H locs cells slots lsm hP hS hl h1 h2
  have hg := wld_get (X := X) (I := I) (R := R) hk9
  rw [cellE_13 hM] at hg
  rw [List.map_cons, List.map_cons, pv_k]
  rw [List.map_cons, show pv X (1, I (64 + (k9 : Int)) (w32 i)) = .long (Int64.ofInt (I (64 + (k9 : Int)) ((Int32.ofInt i).toNatClampNeg : Int))) from congrArg (fun z : Int => Value.long (Int64.ofInt (I (64 + (k9 : Int)) z))) (i_natZ hi.1).symm] at kk
  exact va_lald (D := xD X) (cl := vwCl) hC.1 hC.2.1 hC.2.2.2.2.2.2.1.1 hP k9 1 hg rfl (i_in hi.1 hi.2) hd kk
theorem P_aaload {a i : Int} (hk : kd M a = 16) (hi : 0 ≤ w32 i ∧ w32 i < ln M a) (hq : pc + 1 = q) (hd : decode md.2.1 pc = .ok (.aaload, 1)) (k : PW X d Me md Ms q ls ((2, R a (w32 i)) :: st) I R M Q) : PW X d Me md Ms pc ls ((0, i) :: (2, a) :: st) I R M Q := by
  intro p e s m args below meth c Rm hC H locs cells slots lsm hP hS hl h1 h2
  subst hq
  obtain ⟨k9, rfl, hk9, hM⟩ := kd_in hk (by decide)
  have kk := k p e s m args below meth c Rm hC H locs cells slots lsm hP hS hl h1 h2
  have hg := wld_get (X := X) (I := I) (R := R) hk9
  rw [cellE_16 hM] at hg
  rw [List.map_cons, List.map_cons, pv_k]
  rw [List.map_cons, show pv X (2, R (64 + (k9 : Int)) (w32 i)) = va_rf (rv X (R (64 + (k9 : Int)) ((Int32.ofInt i).toNatClampNeg : Int))) from congrArg (fun z : Int => va_rf (rv X (R (64 + (k9 : Int)) z))) (i_natZ hi.1).symm] at kk
  exact va_aldq (D := xD X) (cl := vwCl) hC.1 hC.2.1 hC.2.2.2.2.2.2.1.1 hP k9 4 hg rfl (i_in hi.1 hi.2) hd kk
theorem P_aaloadI {a i : Int} (hk : kd M a = 15) (hi : 0 ≤ w32 i ∧ w32 i < ln M a) (hq : pc + 1 = q) (hd : decode md.2.1 pc = .ok (.aaload, 1)) (k : PW X d Me md Ms q ls ((2, R a (w32 i)) :: st) I R M Q) : PW X d Me md Ms pc ls ((0, i) :: (2, a) :: st) I R M Q := by
  intro p e s m args below meth c Rm hC H locs cells slots lsm hP hS hl h1 h2
  subst hq
  obtain ⟨k9, rfl, hk9, hM⟩ := kd_in hk (by decide)
  have kk := k p e s m args below meth c Rm hC H locs cells slots lsm hP hS hl h1 h2
  have hg := wld_get (X := X) (I := I) (R := R) hk9
  rw [cellE_15 hM] at hg
  rw [List.map_cons, List.map_cons, pv_k]
  rw [List.map_cons, show pv X (2, R (64 + (k9 : Int)) (w32 i)) = va_rf (rv X (R (64 + (k9 : Int)) ((Int32.ofInt i).toNatClampNeg : Int))) from congrArg (fun z : Int => va_rf (rv X (R (64 + (k9 : Int)) z))) (i_natZ hi.1).symm] at kk
  have hcell : H[xB X + k9]? = some (vp_cell (xA X 3) (ln M (64 + (k9 : Int)), .inr (.inr (.inr (.inr fun j : Nat => rv X (R (64 + (k9 : Int)) j)))))) := hP k9 _ hg
  have hin := i_in hi.1 hi.2
  have hlt : (Int32.ofInt i).toNatClampNeg < ln M (64 + (k9 : Int)) := Nat.not_le.mp fun q => hin (Or.inr q)
  exact W.aald (ty := .array .int) hC.1 hC.2.1 hcell ((hC.2.2.2.2.2.2.1.1.2 3 (xA X 3, .array .int) rfl).1 (ln M (64 + (k9 : Int))) (fun j => va_rf (rv X (R (64 + (k9 : Int)) j)))) rfl (fun q => by cases q) (by show ¬ ((Int32.ofInt i) < 0 ∨ (arrV _ _ _).slots.size ≤ _); rw [arrV_size]; exact hin) (by show (arrV _ _ _).slots[_]? = _; rw [arrV_read _ _ hlt]) rfl rfl hd kk
theorem P_iastore {a i x : Int} (hk : kd M a = 12) (hi : 0 ≤ w32 i ∧ w32 i < ln M a) (hq : pc + 1 = q) (hd : decode md.2.1 pc = .ok (.iastore, 1)) (k : PW X d Me md Ms q ls st (u2 I a (w32 i) x) R M Q) : PW X d Me md Ms pc ls ((0, x) :: (0, i) :: (2, a) :: st) I R M Q := by
  intro p e s m args below meth c Rm hC H locs cells slots lsm hP hS hl h1 h2
  subst hq
  obtain ⟨k9, rfl, hk9, hM⟩ := kd_in hk (by decide)
  have hg := wld_get (X := X) (I := I) (R := R) hk9
  rw [cellE_12 hM] at hg
  have hset : (wld X M I R).set k9 (xB X + k9, .inl (xA X 0, ln M (64 + (k9 : Int)), .inl (upd (fun j : Nat => Int32.ofInt (I (64 + (k9 : Int)) j)) (Int32.ofInt i).toNatClampNeg (Int32.ofInt x)))) = wld X M (u2 I (64 + (k9 : Int)) (w32 i) x) R := by
    refine wld_set hk9 ?_ (fun k' hk' i => u2_o (by omega)) (fun k' hk' i => rfl)
    rw [cellE_12 hM]
    
    refine congrArg (fun f => (.inl (_, _, f) : va_E)) (congrArg Sum.inl ?_)
    funext j
    by_cases hj : j = (Int32.ofInt i).toNatClampNeg
    · subst hj
      rw [i_natZ hi.1]
      simp [upd, u2_at]
    · have hj2 : (j : Int) ≠ w32 i := fun e => hj (by rw [i_nat]; omega)
      simp [upd, hj, u2_j hj2]
  have kk := fun (H1 : Heap) (locs1 : List Loc) (hP1 : va_P (xD X) vwCl ((wld X M I R).set k9 (xB X + k9, .inl (xA X 0, ln M (64 + (k9 : Int)), .inl (upd (fun j : Nat => Int32.ofInt (I (64 + (k9 : Int)) j)) (Int32.ofInt i).toNatClampNeg (Int32.ofInt x))))) H1) (_ : va_D (xO X) ((wld X M I R).set k9 (xB X + k9, .inl (xA X 0, ln M (64 + (k9 : Int)), .inl (upd (fun j : Nat => Int32.ofInt (I (64 + (k9 : Int)) j)) (Int32.ofInt i).toNatClampNeg (Int32.ofInt x)))))) (hS1 : va_S (xO X) s.heap H1 locs1) => k p e s m args below meth c Rm hC H1 locs1 cells slots lsm (by rw [hset] at hP1; exact hP1) hS1 hl h1 h2
  rw [List.map_cons, List.map_cons, List.map_cons, pv_k]
  exact va_iast (D := xD X) (cl := vwCl) hC.1 hC.2.1 hC.2.2.2.2.2.2.1.1 hP wld_D hS k9 0 hg rfl (i_in hi.1 hi.2) hd kk
theorem P_lastore {a i x : Int} (hk : kd M a = 13) (hi : 0 ≤ w32 i ∧ w32 i < ln M a) (hq : pc + 1 = q) (hd : decode md.2.1 pc = .ok (.lastore, 1)) (k : PW X d Me md Ms q ls st (u2 I a (w32 i) x) R M Q) : PW X d Me md Ms pc ls ((1, x) :: (0, i) :: (2, a) :: st) I R M Q := by
  intro p e s m args below meth c Rm hC H locs cells slots lsm hP hS hl h1 h2
  subst hq
  obtain ⟨k9, rfl, hk9, hM⟩ := kd_in hk (by decide)
  have hg := wld_get (X := X) (I := I) (R := R) hk9
  rw [cellE_13 hM] at hg
  have hset : (wld X M I R).set k9 (xB X + k9, .inl (xA X 1, ln M (64 + (k9 : Int)), .inr (.inl (vp_updL (fun j : Nat => Int64.ofInt (I (64 + (k9 : Int)) j)) (Int32.ofInt i).toNatClampNeg (Int64.ofInt x))))) = wld X M (u2 I (64 + (k9 : Int)) (w32 i) x) R := by
    refine wld_set hk9 ?_ (fun k' hk' i => u2_o (by omega)) (fun k' hk' i => rfl)
    rw [cellE_13 hM]
    
    refine congrArg (fun f => (.inl (_, _, f) : va_E)) (congrArg Sum.inr (congrArg Sum.inl ?_))
    funext j
    by_cases hj : j = (Int32.ofInt i).toNatClampNeg
    · subst hj
      rw [i_natZ hi.1]
      simp [vp_updL, u2_at]
    · have hj2 : (j : Int) ≠ w32 i := fun e => hj (by rw [i_nat]; omega)
      simp [vp_updL, hj, u2_j hj2]
  have kk := fun (H1 : Heap) (locs1 : List Loc) (hP1 : va_P (xD X) vwCl ((wld X M I R).set k9 (xB X + k9, .inl (xA X 1, ln M (64 + (k9 : Int)), .inr (.inl (vp_updL (fun j : Nat => Int64.ofInt (I (64 + (k9 : Int)) j)) (Int32.ofInt i).toNatClampNeg (Int64.ofInt x)))))) H1) (_ : va_D (xO X) ((wld X M I R).set k9 (xB X + k9, .inl (xA X 1, ln M (64 + (k9 : Int)), .inr (.inl (vp_updL (fun j : Nat => Int64.ofInt (I (64 + (k9 : Int)) j)) (Int32.ofInt i).toNatClampNeg (Int64.ofInt x))))))) (hS1 : va_S (xO X) s.heap H1 locs1) => k p e s m args below meth c Rm hC H1 locs1 cells slots lsm (by rw [hset] at hP1; exact hP1) hS1 hl h1 h2
  rw [List.map_cons, List.map_cons, List.map_cons, pv_k]
  exact va_last (D := xD X) (cl := vwCl) hC.1 hC.2.1 hC.2.2.2.2.2.2.1.1 hP wld_D hS k9 1 hg rfl (i_in hi.1 hi.2) hd kk
theorem P_castore {a i x : Int} (hx : vp_nar .char (Int32.ofInt x) = Int32.ofInt x) (hk : kd M a = 14) (hi : 0 ≤ w32 i ∧ w32 i < ln M a) (hq : pc + 1 = q) (hd : decode md.2.1 pc = .ok (.castore, 1)) (k : PW X d Me md Ms q ls st (u2 I a (w32 i) x) R M Q) : PW X d Me md Ms pc ls ((0, x) :: (0, i) :: (2, a) :: st) I R M Q := by
  intro p e s m args below meth c Rm hC H locs cells slots lsm hP hS hl h1 h2
  subst hq
  obtain ⟨k9, rfl, hk9, hM⟩ := kd_in hk (by decide)
  have hg := wld_get (X := X) (I := I) (R := R) hk9
  rw [cellE_14 hM] at hg
  have hset : (wld X M I R).set k9 (xB X + k9, .inl (xA X 2, ln M (64 + (k9 : Int)), .inl (upd (fun j : Nat => Int32.ofInt (I (64 + (k9 : Int)) j)) (Int32.ofInt i).toNatClampNeg (vp_nar .char (Int32.ofInt x))))) = wld X M (u2 I (64 + (k9 : Int)) (w32 i) x) R := by
    refine wld_set hk9 ?_ (fun k' hk' i => u2_o (by omega)) (fun k' hk' i => rfl)
    rw [cellE_14 hM]
    rw [hx]
    refine congrArg (fun f => (.inl (_, _, f) : va_E)) (congrArg Sum.inl ?_)
    funext j
    by_cases hj : j = (Int32.ofInt i).toNatClampNeg
    · subst hj
      rw [i_natZ hi.1]
      simp [upd, u2_at]
    · have hj2 : (j : Int) ≠ w32 i := fun e => hj (by rw [i_nat]; omega)
      simp [upd, hj, u2_j hj2]
  have kk := fun (H1 : Heap) (locs1 : List Loc) (hP1 : va_P (xD X) vwCl ((wld X M I R).set k9 (xB X + k9, .inl (xA X 2, ln M (64 + (k9 : Int)), .inl (upd (fun j : Nat => Int32.ofInt (I (64 + (k9 : Int)) j)) (Int32.ofInt i).toNatClampNeg (vp_nar .char (Int32.ofInt x)))))) H1) (_ : va_D (xO X) ((wld X M I R).set k9 (xB X + k9, .inl (xA X 2, ln M (64 + (k9 : Int)), .inl (upd (fun j : Nat => Int32.ofInt (I (64 + (k9 : Int)) j)) (Int32.ofInt i).toNatClampNeg (vp_nar .char (Int32.ofInt x))))))) (hS1 : va_S (xO X) s.heap H1 locs1) => k p e s m args below meth c Rm hC H1 locs1 cells slots lsm (by rw [hset] at hP1; exact hP1) hS1 hl h1 h2
  rw [List.map_cons, List.map_cons, List.map_cons, pv_k]
  exact va_cast (D := xD X) (cl := vwCl) hC.1 hC.2.1 hC.2.2.2.2.2.2.1.1 hP wld_D hS k9 2 hg rfl (i_in hi.1 hi.2) hd kk
theorem P_aastore {a i x : Int} (hv : kd M x = 8) (hk : kd M a = 16) (hi : 0 ≤ w32 i ∧ w32 i < ln M a) (hq : pc + 1 = q) (hd : decode md.2.1 pc = .ok (.aastore, 1)) (k : PW X d Me md Ms q ls st I (u2 R a (w32 i) x) M Q) : PW X d Me md Ms pc ls ((2, x) :: (0, i) :: (2, a) :: st) I R M Q := by
  intro p e s m args below meth c Rm hC H locs cells slots lsm hP hS hl h1 h2
  subst hq
  obtain ⟨k9, rfl, hk9, hM⟩ := kd_in hk (by decide)
  have hg := wld_get (X := X) (I := I) (R := R) hk9
  rw [cellE_16 hM] at hg
  have hset : (wld X M I R).set k9 (xB X + k9, .inl (xA X 4, ln M (64 + (k9 : Int)), .inr (.inr (.inr (.inr (va_up (fun j : Nat => rv X (R (64 + (k9 : Int)) j)) (Int32.ofInt i).toNatClampNeg (some (ad X x)))))))) = wld X M I (u2 R (64 + (k9 : Int)) (w32 i) x) := by
    refine wld_set hk9 ?_ (fun k' hk' i => rfl) (fun k' hk' i => u2_o (by omega))
    rw [cellE_16 hM]
    have hx0 : x ≠ 0 := fun h => by rw [h] at hv; cases hv
    refine congrArg (fun f => (.inl (_, _, f) : va_E)) (congrArg Sum.inr (congrArg Sum.inr (congrArg Sum.inr (congrArg Sum.inr ?_))))
    funext j
    by_cases hj : j = (Int32.ofInt i).toNatClampNeg
    · subst hj
      rw [i_natZ hi.1]
      simp [va_up, u2_at, rv, hx0]
    · have hj2 : (j : Int) ≠ w32 i := fun e => hj (by rw [i_nat]; omega)
      simp [va_up, hj, u2_j hj2]
  have kk := fun (H1 : Heap) (locs1 : List Loc) (hP1 : va_P (xD X) vwCl ((wld X M I R).set k9 (xB X + k9, .inl (xA X 4, ln M (64 + (k9 : Int)), .inr (.inr (.inr (.inr (va_up (fun j : Nat => rv X (R (64 + (k9 : Int)) j)) (Int32.ofInt i).toNatClampNeg (some (ad X x))))))))) H1) (_ : va_D (xO X) ((wld X M I R).set k9 (xB X + k9, .inl (xA X 4, ln M (64 + (k9 : Int)), .inr (.inr (.inr (.inr (va_up (fun j : Nat => rv X (R (64 + (k9 : Int)) j)) (Int32.ofInt i).toNatClampNeg (some (ad X x)))))))))) (hS1 : va_S (xO X) s.heap H1 locs1) => k p e s m args below meth c Rm hC H1 locs1 cells slots lsm (by rw [hset] at hP1; exact hP1) hS1 hl h1 h2
  rw [List.map_cons, List.map_cons, List.map_cons, pv_k]
  obtain ⟨k8, rfl, hk8, hM8⟩ := kd_in hv (by decide)
  have hg8 := wld_get (X := X) (I := I) (R := R) hk8
  rw [cellE_obj hM8 (by decide)] at hg8
  rw [pv_k]
  rw [ad_k] at kk
  exact va_astq (r := (RX8, TX8, 5)) (D := xD X) (cl := vwCl) hC.1 hC.2.1 hC.2.2.2.2.2.2.1.1 hP wld_D hS k9 4 k8 8 hg rfl hg8 rfl (i_in hi.1 hi.2) hd kk
theorem P_alen {a : Int} {c9 : Nat} (hk : kd M a = c9) (hc : 12 ≤ c9 ∧ c9 ≤ 16) (hn : ln M a < 2147483648) (hq : pc + 1 = q) (hd : decode md.2.1 pc = .ok (.arraylength, 1)) (k : PW X d Me md Ms q ls ((0, (ln M a : Int)) :: st) I R M Q) : PW X d Me md Ms pc ls ((2, a) :: st) I R M Q := by
  intro p e s m args below meth c Rm hC H locs cells slots lsm hP hS hl h1 h2
  subst hq
  obtain ⟨k9, rfl, hk9, hM⟩ := kd_in hk (by omega)
  have kk := k p e s m args below meth c Rm hC H locs cells slots lsm hP hS hl h1 h2
  have hg := wld_get (X := X) (I := I) (R := R) hk9
  rw [List.map_cons, pv_k]
  have hv : Int32.ofNat (ln M (64 + (k9 : Int))) = Int32.ofInt (ln M (64 + (k9 : Int)) : Int) := rfl
  have hc9 : c9 = 12 ∨ c9 = 13 ∨ c9 = 14 ∨ c9 = 15 ∨ c9 = 16 := by omega
  rcases hc9 with rfl | rfl | rfl | rfl | rfl
  · rw [cellE_12 hM] at hg; exact va_alen (ty := .int) (D := xD X) (cl := vwCl) hC.1 hC.2.1 hC.2.2.2.2.2.2.1.1 hP k9 0 hg rfl hv hd kk
  · rw [cellE_13 hM] at hg; exact va_alen (ty := .long) (D := xD X) (cl := vwCl) hC.1 hC.2.1 hC.2.2.2.2.2.2.1.1 hP k9 1 hg rfl hv hd kk
  · rw [cellE_14 hM] at hg; exact va_alen (ty := .char) (D := xD X) (cl := vwCl) hC.1 hC.2.1 hC.2.2.2.2.2.2.1.1 hP k9 2 hg rfl hv hd kk
  · rw [cellE_15 hM] at hg; exact va_alen (ty := .array .int) (D := xD X) (cl := vwCl) hC.1 hC.2.1 hC.2.2.2.2.2.2.1.1 hP k9 3 hg rfl hv hd kk
  · rw [cellE_16 hM] at hg; exact va_alen (ty := .object "NoonHat$State") (D := xD X) (cl := vwCl) hC.1 hC.2.1 hC.2.2.2.2.2.2.1.1 hP k9 4 hg rfl hv hd kk
theorem ad_s (X : CX) {o : Int} (h0 : o < 64) : ad X o = xS X o.toNat := by unfold ad; rw [if_pos h0]
theorem pv_s (X : CX) {o : Int} (h0 : o < 64) (h1 : 0 < o) : pv X (2, o) = .ref (xS X o.toNat) := by
  show va_rf (rv X o) = _
  unfold rv
  rw [if_neg (by omega), ad_s X h0]
  rfl
theorem P_gets {ix : Nat} {C n dd : String} {o : Int} (hz : ∀ U H, Sta X U H → va_Z C n dd (.ref (xS X o.toNat)) (xO X) U H) (ho : 0 < o ∧ o < 64) (hw : Cond.fieldLink md.1.cls ix C n dd ∈ tG ∨ ∃ host, Cond.fieldLinkNest md.1.cls ix C n dd host ∈ tN) (hq : pc + 3 = q) (hd : decode md.2.1 pc = .ok (.getstatic ix, 3)) (k : PW X d Me md Ms q ls ((2, o) :: st) I R M Q) : PW X d Me md Ms pc ls st I R M Q := by
  intro p e s m args below meth c Rm hC H locs cells slots lsm hP hS hl h1 h2
  subst hq
  have kk := k p e s m args below meth c Rm hC H locs cells slots lsm hP hS hl h1 h2
  rw [List.map_cons, pv_s X ho.2 ho.1] at kk
  rcases hw with hw | ⟨host, hw⟩
  · exact va_gets hC.1 hC.2.1 (hz _ _ hC.2.2.2.2.2.2.1.2.2.2.2) hS hC.2.2.2.2.1 (hC.2.2.2.2.2.1 _ hw) (fun _ h => h) hd kk
  · exact va_getsN hC.1 hC.2.1 (hz _ _ hC.2.2.2.2.2.2.1.2.2.2.2) hS hC.2.2.2.2.1 (va_Nw.use rfl (hC.2.2.2.2.2.2.1.2.1 _ hw)) (fun _ h => h) hd kk
theorem zW {i : Nat} (hi : i < 37) {U : State} {H : Heap} (h : Sta X U H) : va_Z "NoonHat$Word" (wNm.getD i "") "LNoonHat$Word;" (.ref (xS X (((i + 1 : Nat) : Int)).toNat)) (xO X) U H := (h.1.1 i hi).1
theorem z38 {U : State} {H : Heap} (h : Sta X U H) : va_Z "NoonHat$Word" "WORDS" "[LNoonHat$Word;" (.ref (xS X (38 : Int).toNat)) (xO X) U H := h.2.1
theorem z39 {U : State} {H : Heap} (h : Sta X U H) : va_Z "NoonHat$Word" "POWERS" "[I" (.ref (xS X (39 : Int).toNat)) (xO X) U H := h.2.2.1
theorem z40 {U : State} {H : Heap} (h : Sta X U H) : va_Z "NoonHat" "COLUMN_STEPS" "[I" (.ref (xS X (40 : Int).toNat)) (xO X) U H := h.2.2.2.1
theorem z41 {U : State} {H : Heap} (h : Sta X U H) : va_Z "NoonHat" "ROW_STEPS" "[I" (.ref (xS X (41 : Int).toNat)) (xO X) U H := h.2.2.2.2.1
/-- a static table of whole numbers -/
theorem P_ialoadS {a i : Int} (hk : 39 ≤ a ∧ a ≤ 41) (hi : 0 ≤ w32 i ∧ w32 i < (sT a).length) (hq : pc + 1 = q) (hd : decode md.2.1 pc = .ok (.iaload, 1)) (k : PW X d Me md Ms q ls ((0, (sT a).getD (w32 i).toNat 0) :: st) I R M Q) : PW X d Me md Ms pc ls ((0, i) :: (2, a) :: st) I R M Q := by
  intro p e s m args below meth c Rm hC H locs cells slots lsm hP hS hl h1 h2
  subst hq
  have kk := k p e s m args below meth c Rm hC H locs cells slots lsm hP hS hl h1 h2
  rw [List.map_cons, List.map_cons, pv_s X (by omega) (by omega)]
  exact va_ti hC.1 hC.2.1 (hC.2.2.2.2.2.2.1.2.2.2.2.2.2.2.2.2.2.1 a hk.1 hk.2) hS (i_in hi.1 hi.2) rfl hd kk
theorem P_alenS {a : Int} (hk : 39 ≤ a ∧ a ≤ 41) (hq : pc + 1 = q) (hd : decode md.2.1 pc = .ok (.arraylength, 1)) (k : PW X d Me md Ms q ls ((0, ((sT a).length : Int)) :: st) I R M Q) : PW X d Me md Ms pc ls ((2, a) :: st) I R M Q := by
  intro p e s m args below meth c Rm hC H locs cells slots lsm hP hS hl h1 h2
  subst hq
  have kk := k p e s m args below meth c Rm hC H locs cells slots lsm hP hS hl h1 h2
  rw [List.map_cons, pv_s X (by omega) (by omega)]
  exact va_tlen hC.1 hC.2.1 (hC.2.2.2.2.2.2.1.2.2.2.2.2.2.2.2.2.2.1 a hk.1 hk.2) hS rfl hd kk
theorem P_alenW (hq : pc + 1 = q) (hd : decode md.2.1 pc = .ok (.arraylength, 1)) (k : PW X d Me md Ms q ls ((0, 37) :: st) I R M Q) : PW X d Me md Ms pc ls ((2, 38) :: st) I R M Q := by
  intro p e s m args below meth c Rm hC H locs cells slots lsm hP hS hl h1 h2
  subst hq
  have kk := k p e s m args below meth c Rm hC H locs cells slots lsm hP hS hl h1 h2
  rw [List.map_cons, pv_s X (by decide) (by decide)]
  exact va_tlen hC.1 hC.2.1 hC.2.2.2.2.2.2.1.2.2.2.2.2.2.2.2.2.1 hS rfl hd kk
theorem P_aaloadW {i : Int} (hi : 0 ≤ w32 i ∧ w32 i < 37) (hq : pc + 1 = q) (hd : decode md.2.1 pc = .ok (.aaload, 1)) (k : PW X d Me md Ms q ls ((2, w32 i + 1) :: st) I R M Q) : PW X d Me md Ms pc ls ((0, i) :: (2, 38) :: st) I R M Q := by
  intro p e s m args below meth c Rm hC H locs cells slots lsm hP hS hl h1 h2
  subst hq
  have kk := k p e s m args below meth c Rm hC H locs cells slots lsm hP hS hl h1 h2
  rw [List.map_cons, pv_s X (by omega) (by omega)] at kk
  rw [List.map_cons, List.map_cons, pv_s X (o := 38) (by decide) (by decide)]
  refine vb_tq hC.1 hC.2.1 hC.2.2.2.2.2.2.1.2.2.2.2.2.2.2.2.2.1 hS (i_in hi.1 hi.2) ?_ hd kk
  show Value.ref (xS X ((Int32.ofInt i).toNatClampNeg + 1)) = _
  rw [i_nat, show (w32 i + 1).toNat = (w32 i).toNat + 1 by omega]
/-- the script -/
theorem P_ialoadX {i : Int} (hi : 0 ≤ w32 i ∧ w32 i < xN X) (hq : pc + 1 = q) (hd : decode md.2.1 pc = .ok (.iaload, 1)) (k : PW X d Me md Ms q ls ((0, (xV X (w32 i).toNat).toInt) :: st) I R M Q) : PW X d Me md Ms pc ls ((0, i) :: (2, 42) :: st) I R M Q := by
  intro p e s m args below meth c Rm hC H locs cells slots lsm hP hS hl h1 h2
  subst hq
  have kk := k p e s m args below meth c Rm hC H locs cells slots lsm hP hS hl h1 h2
  rw [List.map_cons, show pv X (0, (xV X (w32 i).toNat).toInt) = .int (xV X (w32 i).toNat) from congrArg Value.int (Int32.ofInt_toInt _)] at kk
  rw [List.map_cons, List.map_cons, pv_s X (o := 42) (by decide) (by decide)]
  exact va_ti hC.1 hC.2.1 hC.2.2.2.2.2.2.1.2.2.2.2.2.2.2.2.2.2.2 hS (i_in hi.1 hi.2) rfl hd kk
theorem P_alenX (hq : pc + 1 = q) (hd : decode md.2.1 pc = .ok (.arraylength, 1)) (k : PW X d Me md Ms q ls ((0, (xN X : Int)) :: st) I R M Q) : PW X d Me md Ms pc ls ((2, 42) :: st) I R M Q := by
  intro p e s m args below meth c Rm hC H locs cells slots lsm hP hS hl h1 h2
  subst hq
  have kk := k p e s m args below meth c Rm hC H locs cells slots lsm hP hS hl h1 h2
  rw [List.map_cons, pv_s X (by decide) (by decide)]
  exact va_tlen hC.1 hC.2.1 hC.2.2.2.2.2.2.1.2.2.2.2.2.2.2.2.2.2.2 hS rfl hd kk
/-- a word's own field -/
def FE (own : String) (ix j : Nat) : Prop := ∃ n dd, ("NoonHat$Word", n, dd, (wT j).map Int32.ofInt) ∈ wF ∧ (Cond.fieldLink own ix "NoonHat$Word" n dd ∈ tG ∨ ∃ host, Cond.fieldLinkNest own ix "NoonHat$Word" n dd host ∈ tN)
theorem P_getE {ix j : Nat} {o : Int} (hF : FE md.1.cls ix j) (ho : 1 ≤ o ∧ o ≤ 37) (hq : pc + 3 = q) (hd : decode md.2.1 pc = .ok (.getfield ix, 3)) (k : PW X d Me md Ms q ls ((0, sW j o) :: st) I R M Q) : PW X d Me md Ms pc ls ((2, o) :: st) I R M Q := by
  intro p e s m args below meth c Rm hC H locs cells slots lsm hP hS hl h1 h2
  subst hq
  have kk := k p e s m args below meth c Rm hC H locs cells slots lsm hP hS hl h1 h2
  obtain ⟨n, dd, hmem, hw⟩ := hF
  rw [List.map_cons, pv_s X (by omega) (by omega)]
  have hi : (o - 1).toNat < wNm.length := by show _ < 37; omega
  have eo : o.toNat = (o - 1).toNat + 1 := by omega
  have ev : ((wT j).map Int32.ofInt).getD (o - 1).toNat 0 = Int32.ofInt (sW j o) := by
    unfold sW
    rw [List.getD_eq_getElem?_getD, List.getD_eq_getElem?_getD, List.getElem?_map]
    cases (wT j)[(o - 1).toNat]? <;> rfl
  rw [List.map_cons, show pv X (0, sW j o) = .int (((wT j).map Int32.ofInt).getD (o - 1).toNat 0) from congrArg Value.int ev.symm] at kk
  rw [eo]
  rcases hw with hw | ⟨host, hw⟩
  · exact va_getE (ad := fun i => xS X (i + 1)) hC.1 hC.2.1 hC.2.2.2.2.2.2.1.2.2.2.2.1 hi hS hC.2.2.2.2.1 hmem (hC.2.2.2.2.2.1 _ hw) (fun _ h => h) hd kk
  · obtain ⟨cf, k1, fi, f, cell, g1, g2, g3, g4, g5, g6⟩ := ((hC.2.2.2.2.2.2.1.2.2.2.2.1.1 _ hi).2.2 _ hmem).kept hS.2.1
    exact va_Wgetf hC.1 hC.2.1 hC.2.2.2.2.1 (va_Nw.use rfl (hC.2.2.2.2.2.2.1.2.1 _ hw)) g1 g2 g3 g4 g5 rfl rfl hd kk
end
