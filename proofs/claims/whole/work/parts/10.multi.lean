/-! ===== new int[n][k] ===== -/
def zR (f : PF) (o n : Int) : PF := fun a j => if a = o then (if 0 ≤ j ∧ j < n then o + 1 + j else 0) else if o < a ∧ a ≤ o + n then 0 else f a j
def zI (f : PF) (o n : Int) : PF := fun a j => if o ≤ a ∧ a ≤ o + n then 0 else f a j
theorem mu_outer (X : CX) (c : ClassId) (N h0 : Nat) : ∀ i : Nat, Jvm.Free.Multi.outerC c N h0 i = arrV c N (fun j => va_rf (if j < i then some (h0 + 1 + j) else none))
  | 0 => by
    show ({ cls := c, slots := Array.replicate N .null, vm := .none } : Cell) = _
    rw [arrV_new]
    refine congrArg (arrV c N) (funext fun j => ?_)
    simp [va_rf]
  | i + 1 => by
    show (Jvm.Free.Multi.outerC c N h0 i).setSlot i (.ref (h0 + 1 + i)) = _
    rw [mu_outer X c N h0 i, arrV_store]
    refine congrArg (arrV c N) (funext fun j => ?_)
    by_cases e : j = i
    · subst e
      simp [updV, va_rf]
    · by_cases h : j < i
      · simp [updV, e, h, Nat.lt_succ_of_lt h]
      · simp [updV, e, h, show ¬ j < i + 1 by omega]
section
variable {X : CX} {d : Nat} {Me Ms : PM} {md : MD} {pc q : Nat} {ls st : List PV} {I R : PF} {M : PM} {Q : PV → PF → PF → Prop}
theorem P_mna {ix N K : Nat} (hw : Cond.classLink md.1.cls ix "[[I" ∈ tG) (hw2 : Cond.arrayClass .int ∈ tG) (hN : 0 < N ∧ N ≤ 100000) (hK9 : K ≤ 100000) (hMe : M.length + (1 + N) ≤ Me.length ∧ szM M + (N + N * K) ≤ szM Me)
    (hq : pc + 4 = q) (hd : decode md.2.1 pc = .ok (.multianewarray ix 2, 4)) (k : PW X d Me md Ms q ls ((2, 64 + (M.length : Int)) :: st) (zI I (64 + (M.length : Int)) N) (zR R (64 + (M.length : Int)) N) (M ++ (15, N) :: List.replicate N (12, K)) Q) : PW X d Me md Ms pc ls ((0, (K : Int)) :: (0, (N : Int)) :: st) I R M Q := by
  intro p e s m args below meth c Rm hC H locs cells slots lsm hP hS hl h1 h2
  subst hq
  have hCC := hC
  obtain ⟨hx, hb, hr, hml, hown, htg, hst, hlk, hnm, hdf, hdl, hrc, hrs, hsz⟩ := hC
  refine W_sz hP hS hsz h1 rfl (fun hz => ?_)
  have eN : (Int32.ofInt (N : Int)).toNatClampNeg = N := by rw [i_nat, w32_id (by omega) (by omega)]; rfl
  have eK : (Int32.ofInt (K : Int)).toNatClampNeg = K := by rw [i_nat, w32_id (by omega) (by omega)]; rfl
  intro T hT Xs
  obtain ⟨vm₁, cA, comp, -, fA, fC, hO, -, X', step⟩ := Xs.multianewarray2F hx hown (index := ix) (ty := .int) (htg _ hw) (show (Cond.arrayOver (.array .int)).before args s = true from hst.2.2.1) (htg _ hw2) (g := F0 m pc lsm (.int (Int32.ofInt (K : Int)) :: .int (Int32.ofInt (N : Int)) :: st.map (pv X))) rfl (by rw [hb]; exact hd) rfl (fun h => by have h9 : w32 (N : Int) < 0 := i_lt0.mp h; rw [w32_id (by omega) (by omega)] at h9; omega) (fun h => by have h9 : w32 (K : Int) < 0 := i_lt0.mp h; rw [w32_id (by omega) (by omega)] at h9; omega) (by rw [eN]; omega) (by rw [eK]; show K * 4 ≤ _; omega) (by rw [eK]; omega) rfl rfl (by rw [eN]; omega) (by rw [eN, eK]; omega)
  rw [eN, eK] at X' step
  have ecA : cA = xA X 3 := arr_cls (n := 3) hst.1 rfl (fun _ h => by cases h) fA
  have ecC : comp = xA X 0 := arr_cls (n := 0) (ty := .int) hst.1 rfl (fun _ h => by cases h) fC
  subst ecA
  subst ecC
  generalize hF : Jvm.Free.Multi.fill (T.setVm vm₁) (xA X 3) (xA X 0) N K (defaultValue .int) N = F at X' step
  have hTh : (T.setVm vm₁).heap = H := hT
  obtain ⟨f1, f2, -, -⟩ := Jvm.Free.Multi.fill_facts (T.setVm vm₁) (xA X 3) (xA X 0) N K (defaultValue .int) N
  rw [hF, hTh, hz] at f1 f2
  have hold : ∀ x : Nat, x < xB X + M.length → F.heap[x]? = H[x]? := fun x h9 => by
    have := Jvm.Free.Multi.fill_old (T.setVm vm₁) (xA X 3) (xA X 0) N K (defaultValue .int) (a := x) (by rw [hTh, hz]; exact h9) N
    rw [hF, hTh] at this
    exact this
  have hrow : ∀ j : Nat, j < N → F.heap[xB X + M.length + 1 + j]? = some (arrV (xA X 0) K (fun _ => .int 0)) := fun j hj => by
    have := Jvm.Free.Multi.fill_inner (T.setVm vm₁) (xA X 3) (xA X 0) N K (defaultValue .int) N j hj
    rw [hF, hTh, hz] at this
    rw [this]
    refine congrArg some ?_
    rw [← arrV_new]
    rfl
  rw [mu_outer X] at f2
  have hlen : (M ++ (15, N) :: List.replicate N (12, K)).length = M.length + 1 + N := by simp; omega
  have hP1 : Rep X (M ++ (15, N) :: List.replicate N (12, K)) (zI I (64 + (M.length : Int)) N) (zR R (64 + (M.length : Int)) N) F.heap := by
    intro i x hx9
    have hi : i < (M ++ (15, N) :: List.replicate N (12, K)).length := by
      have := (List.getElem?_eq_some_iff.mp hx9).1
      simpa [wld] using this
    rw [wld_get hi] at hx9
    cases hx9
    rw [hlen] at hi
    by_cases ha : i < M.length
    · have e9 : cellE X (M ++ (15, N) :: List.replicate N (12, K)) (zI I (64 + (M.length : Int)) N) (zR R (64 + (M.length : Int)) N) i = cellE X M I R i := by
        rw [← cellE_congr (I := zI I (64 + (M.length : Int)) N) (R := zR R (64 + (M.length : Int)) N) (I' := I) (R' := R) (fun j => by unfold zI; rw [if_neg (by omega)]) (fun j => by unfold zR; rw [if_neg (by omega), if_neg (by omega)])]
        unfold cellE
        rw [List.getElem?_append_left ha]
      rw [e9]
      exact (hP i _ (wld_get ha)).kept (hold _ (by show xB X + i < _; omega))
    · by_cases hb9 : i = M.length
      · subst hb9
        have hM : (M ++ (15, N) :: List.replicate N (12, K))[M.length]? = some (15, N) := by simp
        rw [cellE_15 hM]
        show F.heap[xB X + M.length]? = some (vp_cell (xA X 3) _)
        rw [f2, vp_cell_q]
        refine congrArg some (congrArg (arrV _ _) (funext fun j => ?_))
        unfold zR
        rw [if_pos rfl]
        by_cases hj : j < N
        · rw [if_pos hj, if_pos (by omega)]
          unfold rv
          rw [if_neg (by omega), show (64 : Int) + (M.length : Int) + 1 + (j : Int) = 64 + ((M.length + 1 + j : Nat) : Int) by omega, ad_k]
          exact congrArg (fun z => va_rf (some z)) (by omega)
        · rw [if_neg hj, if_neg (by omega)]
          rfl
      · have hM : (M ++ (15, N) :: List.replicate N (12, K))[i]? = some (12, K) := by
          rw [List.getElem?_append_right (by omega)]
          obtain ⟨j, hj⟩ : ∃ j, i - M.length = j + 1 := ⟨i - M.length - 1, by omega⟩
          rw [hj, List.getElem?_cons_succ, List.getElem?_replicate, if_pos (by omega)]
        rw [cellE_12 hM]
        show F.heap[xB X + i]? = some (vp_cell (xA X 0) _)
        have e1 := hrow (i - M.length - 1) (by omega)
        rw [show xB X + M.length + 1 + (i - M.length - 1) = xB X + i by omega] at e1
        rw [e1, vp_cell_i]
        refine congrArg some (congrArg (arrV _ _) (funext fun j => ?_))
        unfold zI
        rw [if_pos (by omega)]
        rfl
  have hS1 : va_S (xO X) s.heap F.heap locs := ⟨by rw [f1]; have := hS.1; omega, fun x a b => (hold x (by have := hS.1; omega)).trans (hS.2.1 x a b), hS.2.2⟩
  have kk := k p e s m args below meth c Rm hCC F.heap locs (cells + 1 + N) (slots + N + N * K) lsm hP1 hS1 hl (by rw [hlen]; omega) (by simp [szM] at h2 ⊢; omega) F rfl X'
  obtain ⟨t, a1, b1⟩ := kk
  refine ⟨t, step t ?_, b1⟩
  rw [List.map_cons, pv_k] at a1
  have e9 : T.heap.size = xB X + M.length := by rw [hT]; exact hz
  rw [e9]
  exact a1
end
