/-! ===== INVOKE: a call by the callee's contract ===== -/
def CO (md : MD) (n : Nat) : Prop := (md.1.cls ≠ "java/lang/invoke/MethodHandle" ∧ md.1.cls ≠ "java/lang/invoke/VarHandle" ∧ (parseMethodDescriptor md.1.desc).map (fun d => d.parameters.length) = some n) ∧ md.2.2.1 ≤ 20 ∧ Cond.code md.1 md.2.1 md.2.2.1 md.2.2.2 ∈ tG ∧ Cond.initialized md.1.cls ∈ tG
def COV (md : MD) (n ci : Nat) : Prop := CO md n ∧ Cond.instanceMethod md.1 ∈ tG ∧ Cond.selects md.1.cls md.1 md.1 ∈ tG ∧ ci < 12 ∧ ∃ T N, vwCl[ci]? = some (md.1.cls, T, N)
def COS (md : MD) (n : Nat) : Prop := CO md n ∧ Cond.static md.1 ∈ tG
def COI (md : MD) (n : Nat) : Prop := CO md n ∧ md.1.name = "<init>" ∧ Cond.instanceMethod md.1 ∈ tG ∧ md.2.2.2 = none
theorem wO_good {md : MD} (h : Cond.code md.1 md.2.1 md.2.2.1 md.2.2.2 ∈ tG) : GoodIn tG (wO md) := fun w hw => by
  rcases List.mem_cons.mp hw with rfl | hw
  · exact ⟨h, tG_ok _ h⟩
  · exact ⟨hw, tG_ok _ hw⟩
section
variable {X : CX} {d d' : Nat} {Me Ms : PM} {md md' : MD} {pc q : Nat} {ls st : List PV} {I R : PF} {M M' : PM} {Q Q' : PV → PF → PF → Prop}
theorem pc_blind {As : List PV} : FrameBlind (va_Pc (As.map (pv X)) (fun U => Stt X U U.heap ∧ Rep X M I R U.heap ∧ U.heap.size = xB X + M.length)) := fun a U g mk h => ⟨h.1, Stt.calling g mk a h.2.1, h.2.2.1, h.2.2.2⟩
theorem rest_map {n : Nat} {As : List PV} (h : As.length = n) : (As.map (pv X)).length = n := by rw [List.length_map]; exact h
theorem cat_map (h : (st.map fun v => if v.1 = 1 then 2 else 1).sum ≤ 8) : ((st.map (pv X)).map fun v => v.category).sum ≤ 8 := by
  rw [List.map_map]
  refine Nat.le_trans (Nat.le_of_eq ?_) h
  congr 1
  apply List.map_congr_left
  intro v _
  exact pv_cat
theorem rpush_map {ret : Option FieldType} {v : PV} : (rpush ret v st).map (pv X) = rpushV ret (pv X v) (st.map (pv X)) := by
  cases ret <;> rfl
theorem P_invV {ix n ci : Nat} {As : List PV} {o : Int} (hO : COV md' n ci) (hn : As.length = n) (hk : kd M o = ci) (hl9 : Cond.methodLink md.1.cls ix md'.1 ∈ tG) (hdd : d' + 1 ≤ d) (hM : M.length ≤ M'.length ∧ M'.length ≤ Me.length ∧ szM M ≤ szM M' ∧ szM M' ≤ szM Me) (hst : (st.map fun v => if v.1 = 1 then 2 else 1).sum ≤ 8)
    (hc : Callee X d' md' M M' ((2, o) :: As) I R Q') (hq : pc + 3 = q) (hd : decode md.2.1 pc = .ok (.invokevirtual ix, 3)) (k : ∀ z I' R', Q' (rtag md'.2.2.2, z) I' R' → PW X d Me md Ms q ls (rpush md'.2.2.2 (rtag md'.2.2.2, z) st) I' R' M' Q) :
    PW X d Me md Ms pc ls (As.reverse ++ (2, o) :: st) I R M Q := by
  intro p e s m args below meth c Rm hC H locs cells slots lsm hP hS hl h1 h2
  subst hq
  have hCC := hC
  obtain ⟨hx, hb, hr, hml, hown, htg, hstt, hlk, hnm, hdf, hdl, hrc, hrs, hsz⟩ := hC
  obtain ⟨⟨hco, hmax, hcode, hini⟩, him, hsel, hci, T, N, hcl⟩ := hO
  obtain ⟨k9, rfl, hk9, hMk⟩ := kd_in hk (by omega)
  refine W_sz hP hS hsz h1 rfl (fun hz => ?_)
  have hg := wld_get (X := X) (I := I) (R := R) hk9
  rw [cellE_obj hMk hci] at hg
  have hrecv := va_recv hstt.1 hP hcl hg
  rw [List.map_append, List.map_reverse, List.map_cons, pv_k]
  refine call_go (va_runV (As := As.map (pv X)) (rest := st.map (pv X)) ⟨hx, hb, hml, hown, htg⟩ hc (cwV n htg (fun w hw => ?_) rfl rfl rfl ⟨rfl, hco⟩ ⟨by show d' + 1 ≤ Rm.frames; omega, by show 8 + (md'.2.2.1 + 11) + 40 * d' ≤ Rm.locals; omega⟩) ⟨pc_blind, hrecv, fun U hU hW => ⟨by rw [List.map_cons, pv_k], Stt.later hstt hS hU hW, by rw [hU]; exact hP, by rw [hU]; exact hz⟩⟩ rfl (rest_map hn) hl.1 rfl (lv_room (cat_map hst)) hd ⟨by omega, by omega⟩) hS (fun v I' R' H1 locs1 hq9 hP1 hS1 => ?_)
  · unfold wsV at hw
    rcases List.mem_append.mp hw with hw | hw
    · simp only [List.mem_cons, List.not_mem_nil, or_false] at hw
      rcases hw with rfl | rfl | rfl | rfl
      · exact ⟨hl9, tG_ok _ hl9⟩
      · exact ⟨him, tG_ok _ him⟩
      · exact ⟨hsel, tG_ok _ hsel⟩
      · exact ⟨hini, tG_ok _ hini⟩
    · exact wO_good hcode w hw
  · have kk := k v I' R' hq9 p e s m args below meth c Rm hCC H1 locs1 (cells + (M'.length - M.length)) (slots + (szM M' - szM M)) lsm hP1 hS1 hl (by omega) (by omega)
    rw [rpush_map] at kk
    exact kk
theorem P_invS {ix n : Nat} {As : List PV} (hO : COS md' n) (hn : As.length = n) (hl9 : Cond.methodLink md.1.cls ix md'.1 ∈ tG ∨ ∃ host, Cond.methodLinkNest md.1.cls ix md'.1 host ∈ tN) (hdd : d' + 1 ≤ d) (hM : M.length ≤ M'.length ∧ M'.length ≤ Me.length ∧ szM M ≤ szM M' ∧ szM M' ≤ szM Me) (hst : (st.map fun v => if v.1 = 1 then 2 else 1).sum ≤ 8)
    (hc : Callee X d' md' M M' As I R Q') (hq : pc + 3 = q) (hd : decode md.2.1 pc = .ok (.invokestatic ix, 3)) (k : ∀ z I' R', Q' (rtag md'.2.2.2, z) I' R' → PW X d Me md Ms q ls (rpush md'.2.2.2 (rtag md'.2.2.2, z) st) I' R' M' Q) :
    PW X d Me md Ms pc ls (As.reverse ++ st) I R M Q := by
  intro p e s m args below meth c Rm hC H locs cells slots lsm hP hS hl h1 h2
  subst hq
  have hCC := hC
  obtain ⟨hx, hb, hr, hml, hown, htg, hstt, hlk, hnm, hdf, hdl, hrc, hrs, hsz⟩ := hC
  obtain ⟨⟨hco, hmax, hcode, hini⟩, hstat⟩ := hO
  refine W_sz hP hS hsz h1 rfl (fun hz => ?_)
  rw [List.map_append, List.map_reverse]
  have hroom : d' + 1 ≤ Rm.frames ∧ 8 + (md'.2.2.1 + 11) + 40 * d' ≤ Rm.locals := ⟨by omega, by omega⟩
  have hpre : PreS s H (va_Pc (As.map (pv X)) (fun U => Stt X U U.heap ∧ Rep X M I R U.heap ∧ U.heap.size = xB X + M.length)) (As.map (pv X)) := ⟨pc_blind, fun U hU hW => ⟨rfl, Stt.later hstt hS hU hW, by rw [hU]; exact hP, by rw [hU]; exact hz⟩⟩
  refine call_go (ret := md'.2.2.2) (M' := M') (Q' := Q') (rest := st.map (pv X)) (a := (As.map (pv X)).toArray) (mc := M'.length - M.length) (ms := szM M' - szM M) ?_ hS (fun v I' R' H1 locs1 hq9 hP1 hS1 => ?_)
  · rcases hl9 with hl9 | ⟨host, hl9⟩
    · exact va_runS ⟨hx, hb, hml, hown, htg⟩ hc (va_cwS n htg (fun w hw => by
        unfold va_wsS at hw
        rcases List.mem_append.mp hw with hw | hw
        · simp only [List.mem_cons, List.not_mem_nil, or_false] at hw
          rcases hw with rfl | rfl | rfl
          · exact ⟨hl9, tG_ok _ hl9⟩
          · exact ⟨hstat, tG_ok _ hstat⟩
          · exact ⟨hini, tG_ok _ hini⟩
        · exact wO_good hcode w hw) rfl rfl rfl hco hroom) hpre rfl (rest_map hn) hl.1 rfl (lv_room (cat_map hst)) hd ⟨by omega, by omega⟩
    · exact va_runSN ⟨hx, hb, hml, hown, htg⟩ hc ⟨va_cnB n htg (wO_good hcode) rfl rfl rfl (hstt.2.1 _ hl9) (htg _ hini) hco hroom, htg _ hstat, trivial⟩ hpre rfl (rest_map hn) hl.1 rfl (lv_room (cat_map hst)) hd ⟨by omega, by omega⟩
  · have kk := k v I' R' hq9 p e s m args below meth c Rm hCC H1 locs1 (cells + (M'.length - M.length)) (slots + (szM M' - szM M)) lsm hP1 hS1 hl (by omega) (by omega)
    rw [rpush_map] at kk
    exact kk
theorem P_invI {ix n ci : Nat} {As : List PV} {o : Int} (hO : COI md' n) (hn : As.length = n) (hk : kd M o = ci) (hci : ci < 12) (hl9 : Cond.methodLink md.1.cls ix md'.1 ∈ tG ∨ ∃ host, Cond.methodLinkNest md.1.cls ix md'.1 host ∈ tN) (hdd : d' + 1 ≤ d) (hM : M.length ≤ M'.length ∧ M'.length ≤ Me.length ∧ szM M ≤ szM M' ∧ szM M' ≤ szM Me) (hst : (st.map fun v => if v.1 = 1 then 2 else 1).sum ≤ 8)
    (hc : Callee X d' md' M M' ((2, o) :: As) I R Q') (hq : pc + 3 = q) (hd : decode md.2.1 pc = .ok (.invokespecial ix, 3)) (k : ∀ z I' R', Q' (9, z) I' R' → PW X d Me md Ms q ls st I' R' M' Q) :
    PW X d Me md Ms pc ls (As.reverse ++ (2, o) :: st) I R M Q := by
  intro p e s m args below meth c Rm hC H locs cells slots lsm hP hS hl h1 h2
  subst hq
  have hCC := hC
  obtain ⟨hx, hb, hr, hml, hown, htg, hstt, hlk, hnm, hdf, hdl, hrc, hrs, hsz⟩ := hC
  obtain ⟨y, cc, maxL, ret⟩ := md'
  obtain ⟨⟨hco, hmax, hcode, hini⟩, hinit, him, hret⟩ := hO
  simp only at hret
  subst hret
  obtain ⟨k9, rfl, hk9, hMk⟩ := kd_in hk (by omega)
  refine W_sz hP hS hsz h1 rfl (fun hz => ?_)
  rw [List.map_append, List.map_reverse, List.map_cons, pv_k]
  have hroom : d' + 1 ≤ Rm.frames ∧ 8 + (maxL + 11) + 40 * d' ≤ Rm.locals := ⟨by omega, by simp only at hmax; omega⟩
  have hpre : PreS s H (va_Pc (((2, 64 + (k9 : Int)) :: As).map (pv X)) (fun U => Stt X U U.heap ∧ Rep X M I R U.heap ∧ U.heap.size = xB X + M.length)) (.ref (xB X + k9) :: As.map (pv X)) := ⟨pc_blind, fun U hU hW => ⟨by rw [List.map_cons, pv_k], Stt.later hstt hS hU hW, by rw [hU]; exact hP, by rw [hU]; exact hz⟩⟩
  refine call_go (ret := none) (M' := M') (Q' := Q') (rest := st.map (pv X)) (a := (Value.ref (xB X + k9) :: As.map (pv X)).toArray) (mc := M'.length - M.length) (ms := szM M' - szM M) ?_ hS (fun v I' R' H1 locs1 hq9 hP1 hS1 => ?_)
  · rcases hl9 with hl9 | ⟨host, hl9⟩
    · exact va_runI (b := xB X + k9) ⟨hx, hb, hml, hown, htg⟩ hc (cwI n htg (wO_good (md := (y, cc, maxL, none)) hcode) rfl rfl rfl (htg _ hini) (htg _ hl9) (htg _ him) hinit hco hroom) hpre rfl (rest_map hn) hl.1 rfl (lv_room (cat_map hst)) hd ⟨by omega, by omega⟩
    · exact va_runIN (b := xB X + k9) ⟨hx, hb, hml, hown, htg⟩ hc ⟨va_cnB n htg (wO_good (md := (y, cc, maxL, none)) hcode) rfl rfl rfl (hstt.2.1 _ hl9) (htg _ hini) hco hroom, hinit, htg _ him⟩ hpre rfl (rest_map hn) hl.1 rfl (lv_room (cat_map hst)) hd ⟨by omega, by omega⟩
  · exact k v I' R' hq9 p e s m args below meth c Rm hCC H1 locs1 (cells + (M'.length - M.length)) (slots + (szM M' - szM M)) lsm hP1 hS1 hl (by omega) (by omega)
/-- Object's own constructor: nothing -/
theorem P_objInit {ix ci : Nat} {o : Int} (hk : kd M o = ci) (hci : ci < 12) (hl9 : Cond.methodLink md.1.cls ix Lib.objectInit ∈ tG) (him : Cond.instanceMethod Lib.objectInit ∈ tG) (hcode : Cond.code Lib.objectInit ⟨#[0xb1]⟩ 1 none ∈ tG) (hd1 : 1 ≤ d) (hst : (st.map fun v => if v.1 = 1 then 2 else 1).sum ≤ 8)
    (hq : pc + 3 = q) (hd : decode md.2.1 pc = .ok (.invokespecial ix, 3)) (k : PW X d Me md Ms q ls st I R M Q) : PW X d Me md Ms pc ls ((2, o) :: st) I R M Q := by
  intro p e s m args below meth c Rm hC H locs cells slots lsm hP hS hl h1 h2
  subst hq
  have kk := k p e s m args below meth c Rm hC H locs cells slots lsm hP hS hl h1 h2
  obtain ⟨hx, hb, hr, hml, hown, htg, hstt, hlk, hnm, hdf, hdl, hrc, hrs, hsz⟩ := hC
  obtain ⟨k9, rfl, hk9, hMk⟩ := kd_in hk (by omega)
  rw [List.map_cons, pv_k]
  have hroom := lv_room (pc := pc) (ls := lsm) (m := m) (rest := Value.ref (xB X + k9) :: st.map (pv X)) (cat_map (X := X) hst)
  exact W.objInit hx hb hown (htg _ hl9) (htg _ him) (htg _ hcode) rfl (by rw [hml]; exact hl.1) rfl hd (by omega) (by omega) kk
/-- System.arraycopy between int arrays -/
theorem P_copy {ix : Nat} {a b sp dp n : Int} (ha : kd M a = 12) (hb9 : kd M b = 12) (h0 : 0 ≤ w32 sp) (h3 : 0 ≤ w32 dp) (h4 : 0 ≤ w32 n) (h5 : w32 sp + w32 n ≤ ln M a) (h6 : w32 dp + w32 n ≤ ln M b)
    (hl9 : Cond.methodLink md.1.cls ix arraycopyName ∈ tG) (hnat : Cond.native arraycopyName ∈ tG) (hstat : Cond.static arraycopyName ∈ tG) (hini : Cond.initialized "java/lang/System" ∈ tG) (hd1 : 1 ≤ d) (hst : (st.map fun v => if v.1 = 1 then 2 else 1).sum ≤ 8)
    (hq : pc + 3 = q) (hd : decode md.2.1 pc = .ok (.invokestatic ix, 3)) (k : PW X d Me md Ms q ls st (fun x j => if x = b ∧ w32 dp ≤ j ∧ j < w32 dp + w32 n then I a (w32 sp + (j - w32 dp)) else I x j) R M Q) : PW X d Me md Ms pc ls ((0, n) :: (0, dp) :: (2, b) :: (0, sp) :: (2, a) :: st) I R M Q := by
  intro p e s m args below meth c Rm hC H locs cells slots lsm hP hS hl h1 h2
  subst hq
  have hCC := hC
  obtain ⟨hx, hb, hr, hml, hown, htg, hstt, hlk, hnm, hdf, hdl, hrc, hrs, hsz⟩ := hC
  obtain ⟨ka, rfl, hka, hMa⟩ := kd_in ha (by omega)
  obtain ⟨kb, rfl, hkb, hMb⟩ := kd_in hb9 (by omega)
  have hga := wld_get (X := X) (I := I) (R := R) hka
  have hgb := wld_get (X := X) (I := I) (R := R) hkb
  rw [cellE_12 hMa] at hga
  rw [cellE_12 hMb] at hgb
  rw [List.map_cons, List.map_cons, List.map_cons, List.map_cons, List.map_cons, pv_k, pv_k]
  have es : ((Int32.ofInt sp).toNatClampNeg : Int) = w32 sp := i_natZ h0
  have ed : ((Int32.ofInt dp).toNatClampNeg : Int) = w32 dp := i_natZ h3
  have en : ((Int32.ofInt n).toNatClampNeg : Int) = w32 n := i_natZ h4
  have hset : (wld X M I R).set kb (xB X + kb, .inl (xA X 0, ln M (64 + (kb : Int)), .inl (va_cpy (fun j : Nat => Int32.ofInt (I (64 + (ka : Int)) j)) (fun j : Nat => Int32.ofInt (I (64 + (kb : Int)) j)) (Int32.ofInt sp).toNatClampNeg (Int32.ofInt dp).toNatClampNeg (Int32.ofInt n).toNatClampNeg))) = wld X M (fun x j => if x = 64 + (kb : Int) ∧ w32 dp ≤ j ∧ j < w32 dp + w32 n then I (64 + (ka : Int)) (w32 sp + (j - w32 dp)) else I x j) R := by
    refine wld_set hkb ?_ (fun k' hk' i => if_neg (by omega)) (fun k' hk' i => rfl)
    rw [cellE_12 hMb]
    refine congrArg (fun f => (.inl (_, _, f) : va_E)) (congrArg Sum.inl ?_)
    funext j
    unfold va_cpy
    by_cases hj : w32 dp ≤ (j : Int) ∧ (j : Int) < w32 dp + w32 n
    · rw [if_pos (by omega)]
      simp only [true_and]
      rw [if_pos hj]
      congr 2
      omega
    · rw [if_neg (by omega)]
      simp only [true_and]
      rw [if_neg hj]
  have hroom := cat_map (X := X) hst
  refine va_copyi (D := xD X) (cl := vwCl) hx hb (by rw [hml]; exact hl.1.symm) hown (htg _ hl9) (htg _ hnat) (htg _ hstat) (htg _ hini) hstt.1 hP wld_D hS ka kb 0 0 hga hgb rfl rfl rfl (fun h => by have h9 : w32 sp < 0 := i_lt0.mp h; omega) (fun h => by have h9 : w32 dp < 0 := i_lt0.mp h; omega) (fun h => by have h9 : w32 n < 0 := i_lt0.mp h; omega) (show (Int32.ofInt sp).toNatClampNeg + (Int32.ofInt n).toNatClampNeg ≤ ln M (64 + (ka : Int)) by omega) (show (Int32.ofInt dp).toNatClampNeg + (Int32.ofInt n).toNatClampNeg ≤ ln M (64 + (kb : Int)) by omega) (fun _ _ => rfl) (by omega) ?_ hd (fun H1 locs1 hP1 _ hS1 => ?_)
  · have : nativeFrameWords "java/lang/System" "arraycopy" 5 = 7 := by decide +kernel
    omega
  · rw [hset] at hP1
    exact k p e s m args below meth c Rm hCC H1 locs1 cells slots lsm hP1 hS1 hl h1 h2
/-! a contract out of its walk -/
def lE : List PV → List PV
  | [] => []
  | v :: r => if v.1 = 1 then v :: (9, 0) :: lE r else v :: lE r
theorem lvL_args : ∀ {As : List PV} {i : Nat}, (∀ v ∈ As, v.1 ≠ 9) → ∀ q ∈ lvL X i (lE As), q ∈ lv_args i (As.map (pv X))
  | [], i, _, q, hq => by simp [lE, lvL] at hq
  | v :: r, i, h9, q, hq => by
    have hv := h9 v List.mem_cons_self
    have hr := fun u hu => h9 u (List.mem_cons_of_mem _ hu)
    unfold lE at hq
    rw [List.map_cons]
    unfold lv_args
    rw [pv_cat]
    by_cases h1 : v.1 = 1
    · rw [if_pos h1] at hq ⊢
      unfold lvL at hq
      rw [if_neg hv] at hq
      rcases List.mem_cons.mp hq with hq | hq
      · exact List.mem_cons.mpr (Or.inl hq)
      · unfold lvL at hq
        rw [if_pos rfl] at hq
        exact List.mem_cons_of_mem _ (lvL_args hr q hq)
    · rw [if_neg h1] at hq ⊢
      unfold lvL at hq
      rw [if_neg hv] at hq
      rcases List.mem_cons.mp hq with hq | hq
      · exact List.mem_cons.mpr (Or.inl hq)
      · exact List.mem_cons_of_mem _ (lvL_args hr q hq)
theorem lE_len : ∀ {As : List PV}, (lg_sl (As.map (pv X))).length = (lE As).length
  | [] => rfl
  | v :: r => by
    have ih := lE_len (As := r)
    unfold lE
    rw [List.map_cons]
    unfold lg_sl at ih ⊢
    rw [List.flatMap_cons, List.length_append, ih, pv_cat]
    by_cases h1 : v.1 = 1
    · rw [if_pos h1, if_pos h1, if_pos rfl]; simp only [List.length_cons, List.length_nil]; omega
    · rw [if_neg h1, if_neg h1, if_neg (by decide)]; simp only [List.length_cons, List.length_nil]; omega
theorem callee_of {As : List PV} (hy : plainName md.1.cls = true) (hlen : (lE As).length ≤ md.2.2.1) (h9 : ∀ v ∈ As, v.1 ≠ 9) (k : PW X d M' md M 0 (lE As) [] I R M Q) : Callee X d md M M' As I R Q := by
  refine Met.ofW (cc := md.2.1) (maxL := md.2.2.1) (ret := md.2.2.2) hy rfl ?_
  intro p e s m args below meth c s₁ B hml hv
  obtain ⟨rfl, hst, hP, hsz⟩ := hv
  have hl := lv_entry (As.map (pv X)) (n := md.2.2.1) (by rw [lE_len]; exact hlen)
  rw [lg_entry_eq]
  generalize (lg_sl (As.map (pv X)) ++ List.replicate (md.2.2.1 - (lg_sl (As.map (pv X))).length) Slot.unset).toArray = lsm at hl ⊢
  exact k p e s m _ below meth c _ ⟨B.exec, B.bytes, B.returns, hml, findClass_of_methodNamed B.named, fun w hw => atoms_spec (ws := wO md) B.pre w (List.mem_cons_of_mem _ hw), hst, B.notSynchronized, (name_of_methodNamed B.named B.method).1, Nat.le_refl _, Nat.le_refl _, Nat.le_refl _, Nat.le_refl _, hsz⟩ s.heap [] 0 0 lsm hP va_S.rf (lv_mono hl (lvL_args h9)) (Nat.zero_add _) (Nat.zero_add _)
end
