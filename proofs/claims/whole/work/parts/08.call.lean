/-! ===== what is made, calls, returns ===== -/
section
variable {X : CX} {d : Nat} {Me Ms : PM} {md : MD} {pc q : Nat} {ls st : List PV} {I R : PF} {M : PM} {Q : PV → PF → PF → Prop}
/-- the heap's size is what the cells made say -/
theorem W_sz {p : Program} {e : Env} {s : State} {m : MethodId} {args : Array Value} {below : List Frame} {meth : Method} {c : Code} {Rm : Room} {H : Heap} {locs : List Loc} {cells slots : Nat} {Qf : State → Prop} {g : JFrame} {l : Launch} {B : Nat}
    (hP : Rep X M I R H) (hS : va_S (xO X) s.heap H locs) (hs : s.heap.size = xB X + Ms.length) (h1 : cells + Ms.length = M.length) (hB : B = xB X + M.length)
    (k : H.size = B → W p l e Rm s m args below meth c H locs cells slots Qf g) : W p l e Rm s m args below meth c H locs cells slots Qf g := by
  intro T hT Xs
  refine k ?_ T hT Xs
  have hup : T.heap.size ≤ s.heap.size + cells := Xs.same.2.2.1
  rw [hT] at hup
  have hlo : xB X + M.length ≤ H.size := by
    by_cases h0 : M.length = 0
    · have := hS.1
      omega
    · have hlt := (hP (M.length - 1) _ (wld_get (by omega))).lt
      simp only at hlt
      omega
  omega
theorem arr_cls {s : State} {n : Nat} {ty : FieldType} {cA cB : ClassId} {tys : List (ClassId × FieldType)} {D : va_G} {cl : List vw_C} (hK : va_K D cl tys s) (ht : tys[n]? = some (cB, ty)) (hn : ∀ C, ty ≠ .object C) (h : s.vm.findClass ("[" ++ ty.toString) = some cA) : cA = cB := by
  have h2 := (hK.2 n _ ht).2
  cases ty with
  | object C => exact absurd rfl (hn C)
  | _ => exact Option.some.inj (h.symm.trans h2)
theorem z1_at {f : PF} {o j : Int} : z1 f o o j = 0 := by simp [z1]
theorem z1_o {f : PF} {o a j : Int} (h : a ≠ o) : z1 f o a j = f a j := by simp [z1, h]
/-- behind a making: the new cell stands beside the old ones -/
theorem rep_push {s : State} {H H1 : Heap} {locs : List Loc} {kn : Nat × Nat} {B : Nat} (hP : Rep X M I R H) (hS : va_S (xO X) s.heap H locs) (hz : H.size = B) (hB : B = xB X + M.length) (o1 : ∀ q, q < B → H1[q]? = H[q]?) (z9 : H1.size = B + 1)
    (hnew : va_at (xD X) vwCl (xB X + M.length, cellE X (M ++ [kn]) (z1 I (64 + (M.length : Int))) (z1 R (64 + (M.length : Int))) M.length) H1) : Rep X (M ++ [kn]) (z1 I (64 + (M.length : Int))) (z1 R (64 + (M.length : Int))) H1 ∧ va_S (xO X) s.heap H1 locs := by
  constructor
  · unfold Rep
    rw [← wld_push (X := X) (I := I) (R := R) rfl (fun k hk j => z1_o (by omega)) (fun k hk j => z1_o (by omega))]
    refine (hP.kept (fun k x hx => o1 x.1 (by rw [← hz]; exact (hP k x hx).lt))).app (fun k x hx => ?_)
    have hz2 : k < 1 := (List.getElem?_eq_some_iff.mp hx).1
    rw [show k = 0 by omega] at hx
    cases hx
    exact hnew
  · exact ⟨Nat.le_trans hS.1 (by omega), fun x a b => (o1 x (by have := hS.1; omega)).trans (hS.2.1 x a b), hS.2.2⟩
def okT : FieldType → Bool
  | .float => false
  | .double => false
  | _ => true
theorem dflt_fP {ty : FieldType} {o : Int} {j : Nat} (h : okT ty = true) : defaultValue ty = pv X (fP (fk ty) (z1 I o) (z1 R o) o j) := by
  cases ty <;> simp [okT] at h <;> simp [fP, fk, z1_at, pv, rv, va_rf, defaultValue] <;> rfl
theorem P_new {ix ci N : Nat} {C : String} {T : u_T} (hO : ClOK ci C T N) (hok : ∀ j, j < N → okT (tyOf ci j) = true) (hw : Cond.classLink md.1.cls ix C ∈ tG) (hi : Cond.instantiable C N ∈ tG) (hini : Cond.initialized C ∈ tG) (hMe : M.length + 1 ≤ Me.length ∧ szM M + N ≤ szM Me)
    (hq : pc + 3 = q) (hd : decode md.2.1 pc = .ok (.new ix, 3)) (k : PW X d Me md Ms q ls ((2, 64 + (M.length : Int)) :: st) (z1 I (64 + (M.length : Int))) (z1 R (64 + (M.length : Int))) (M ++ [(ci, N)]) Q) : PW X d Me md Ms pc ls st I R M Q := by
  intro p e s m args below meth c Rm hC H locs cells slots lsm hP hS hl h1 h2
  subst hq
  have hCC := hC
  obtain ⟨hx, hb, hr, hml, hown, htg, hst, hlk, hnm, hdf, hdl, hrc, hrs, hsz⟩ := hC
  refine W_sz hP hS hsz h1 rfl (fun hz => ?_)
  have hKn := hst.1.1 ci _ hO.2.1
  refine W.newcK hx hb hown (htg _ hw) (htg _ hi) (htg _ hini) rfl hd (by omega) (by omega) hKn.2.1 hz fun H1 kC hkC e1 z9 o1 => ?_
  have hM : (M ++ [(ci, N)])[M.length]? = some (ci, N) := by simp
  obtain ⟨hP1, hS1⟩ := rep_push (kn := (ci, N)) hP hS hz rfl o1 z9 (by
    rw [cellE_obj hM hO.1, nF_of hO]
    refine ⟨_, hO.2.1, (u_born (tyOf ci) htg hO.2.2.1 hKn hkC e1 hO.2.2.2.1).to (fun j hj => ?_)⟩
    rw [dflt_fP (X := X) (I := I) (R := R) (o := 64 + (M.length : Int)) (hok j hj)]
    unfold vp_V
    rw [List.getD_eq_getElem?_getD, mr_get hj]
    rfl)
  have kk := k p e s m args below meth c Rm hCC H1 locs (cells + 1) (slots + N) lsm hP1 hS1 hl (by simp; omega) (by simp [szM] at h2 ⊢; omega)
  rw [List.map_cons, pv_k] at kk
  exact kk
theorem P_newarr {at0 : ArrayType} {ty : FieldType} {t0 kind : Nat} {n : Int} (hty : newarray.typeOf at0 = ty) (hw : Cond.arrayClass ty ∈ tG) (hT : (xT X)[t0]? = some (xA X t0, ty)) (ho : ∀ C, ty ≠ .object C)
    (hcell : ∀ (M : PM) (N k : Nat) (I R : PF), M[k]? = some (kind, N) → vp_cell (xA X t0) (match cellE X M (z1 I (64 + (k : Int))) (z1 R (64 + (k : Int))) k with | .inl a => a.2 | .inr _ => (0, .inl fun _ => 0)) = arrV (xA X t0) N (fun _ => defaultValue ty) ∧ ∃ a, cellE X M (z1 I (64 + (k : Int))) (z1 R (64 + (k : Int))) k = .inl (xA X t0, a))
    (hn : 0 ≤ w32 n ∧ w32 n ≤ 100000) (hcb : componentBytes ty ≤ 8) (hMe : M.length + 1 ≤ Me.length ∧ szM M + (w32 n).toNat ≤ szM Me)
    (hq : pc + 2 = q) (hd : decode md.2.1 pc = .ok (.newarray at0, 2)) (k : PW X d Me md Ms q ls ((2, 64 + (M.length : Int)) :: st) (z1 I (64 + (M.length : Int))) (z1 R (64 + (M.length : Int))) (M ++ [(kind, (w32 n).toNat)]) Q) : PW X d Me md Ms pc ls ((0, n) :: st) I R M Q := by
  intro p e s m args below meth c Rm hC H locs cells slots lsm hP hS hl h1 h2
  subst hq
  subst hty
  have hCC := hC
  obtain ⟨hx, hb, hr, hml, hown, htg, hst, hlk, hnm, hdf, hdl, hrc, hrs, hsz⟩ := hC
  refine W_sz hP hS hsz h1 rfl (fun hz => ?_)
  have hN : (Int32.ofInt n).toNatClampNeg = (w32 n).toNat := rfl
  refine va_newaK hx hb (htg _ hw) rfl hd rfl (fun h => by have h9 : w32 n < 0 := i_lt0.mp h; omega) hN ?_ (by omega) (by omega) hz fun H1 cA e1 z9 o1 hAr hNm => ?_
  · have h9 : (w32 n).toNat ≤ 100000 := by omega
    exact Nat.le_trans (Nat.mul_le_mul h9 hcb) (by decide)
  have hcA : cA = xA X t0 := arr_cls hst.1 hT ho hNm
  subst hcA
  have hM : (M ++ [(kind, (w32 n).toNat)])[M.length]? = some (kind, (w32 n).toNat) := by simp
  obtain ⟨c1, a, c2⟩ := hcell (M ++ [(kind, (w32 n).toNat)]) (w32 n).toNat M.length I R hM
  obtain ⟨hP1, hS1⟩ := rep_push (kn := (kind, (w32 n).toNat)) hP hS hz rfl o1 z9 (by
    rw [c2] at c1 ⊢
    show H1[xB X + M.length]? = some (vp_cell (xA X t0) a)
    rw [e1]
    exact congrArg some c1.symm)
  have kk := k p e s m args below meth c Rm hCC H1 locs (cells + 1) (slots + (w32 n).toNat) lsm hP1 hS1 hl (by simp; omega) (by simp [szM] at h2 ⊢; omega)
  rw [List.map_cons, pv_k] at kk
  exact kk
theorem nc12 (M : PM) (N k : Nat) (I R : PF) (h : M[k]? = some (12, N)) : vp_cell (xA X 0) (match cellE X M (z1 I (64 + (k : Int))) (z1 R (64 + (k : Int))) k with | .inl a => a.2 | .inr _ => (0, .inl fun _ => 0)) = arrV (xA X 0) N (fun _ => defaultValue .int) ∧ ∃ a, cellE X M (z1 I (64 + (k : Int))) (z1 R (64 + (k : Int))) k = .inl (xA X 0, a) := by
  rw [cellE_12 h]
  exact ⟨by rw [vp_cell_i]; refine congrArg (arrV _ _) (funext fun j => ?_); rw [z1_at]; rfl, _, rfl⟩
theorem nc13 (M : PM) (N k : Nat) (I R : PF) (h : M[k]? = some (13, N)) : vp_cell (xA X 1) (match cellE X M (z1 I (64 + (k : Int))) (z1 R (64 + (k : Int))) k with | .inl a => a.2 | .inr _ => (0, .inl fun _ => 0)) = arrV (xA X 1) N (fun _ => defaultValue .long) ∧ ∃ a, cellE X M (z1 I (64 + (k : Int))) (z1 R (64 + (k : Int))) k = .inl (xA X 1, a) := by
  rw [cellE_13 h]
  exact ⟨by rw [vp_cell_l]; refine congrArg (arrV _ _) (funext fun j => ?_); rw [z1_at]; rfl, _, rfl⟩
theorem nc14 (M : PM) (N k : Nat) (I R : PF) (h : M[k]? = some (14, N)) : vp_cell (xA X 2) (match cellE X M (z1 I (64 + (k : Int))) (z1 R (64 + (k : Int))) k with | .inl a => a.2 | .inr _ => (0, .inl fun _ => 0)) = arrV (xA X 2) N (fun _ => defaultValue .char) ∧ ∃ a, cellE X M (z1 I (64 + (k : Int))) (z1 R (64 + (k : Int))) k = .inl (xA X 2, a) := by
  rw [cellE_14 h]
  exact ⟨by rw [vp_cell_i]; refine congrArg (arrV _ _) (funext fun j => ?_); rw [z1_at]; rfl, _, rfl⟩
/-- new State[n] -/
theorem P_anew {ix : Nat} {n : Int} (hw : Cond.classLink md.1.cls ix "NoonHat$State" ∈ tG) (hn : 0 ≤ w32 n ∧ w32 n ≤ 100000) (hMe : M.length + 1 ≤ Me.length ∧ szM M + (w32 n).toNat ≤ szM Me)
    (hq : pc + 3 = q) (hd : decode md.2.1 pc = .ok (.anewarray ix, 3)) (k : PW X d Me md Ms q ls ((2, 64 + (M.length : Int)) :: st) (z1 I (64 + (M.length : Int))) (z1 R (64 + (M.length : Int))) (M ++ [(16, (w32 n).toNat)]) Q) : PW X d Me md Ms pc ls ((0, n) :: st) I R M Q := by
  intro p e s m args below meth c Rm hC H locs cells slots lsm hP hS hl h1 h2
  subst hq
  have hCC := hC
  obtain ⟨hx, hb, hr, hml, hown, htg, hst, hlk, hnm, hdf, hdl, hrc, hrs, hsz⟩ := hC
  refine W_sz hP hS hsz h1 rfl (fun hz => ?_)
  have hN : (Int32.ofInt n).toNatClampNeg = (w32 n).toNat := rfl
  refine W.anew hx hb hown (htg _ hw) (va_AO.use hst.2.2.2.1) rfl hd rfl (fun h => by have h9 : w32 n < 0 := i_lt0.mp h; omega) (by rw [hN]; omega) (by omega) (by rw [hN]; omega) fun cA kA comp f1 f2 f3 f4 => ?_
  generalize hH1 : H.push ({ cls := cA, slots := Array.replicate (Int32.ofInt n).toNatClampNeg .null, vm := .none } : Cell) = H1
  have z9 : H1.size = xB X + M.length + 1 := by rw [← hH1, Array.size_push, hz]
  have e1 : H1[xB X + M.length]? = some (arrV cA (w32 n).toNat (fun _ => .null)) := by rw [← hH1, ← hz, Array.getElem?_push_size, ← arrV_new, hN]
  have o1 : ∀ q : Nat, q < xB X + M.length → H1[q]? = H[q]? := fun q hq => by rw [← hH1, Array.getElem?_push, if_neg (by omega)]
  obtain ⟨kA2, comp2, g1, g2, g3, g4⟩ := (hst.1.2 4 (xA X 4, .object "NoonHat$State") rfl).2
  have hcA : cA = xA X 4 := Option.some.inj (f1.symm.trans g4)
  subst hcA
  have hM : (M ++ [(16, (w32 n).toNat)])[M.length]? = some (16, (w32 n).toNat) := by simp
  obtain ⟨hP1, hS1⟩ := rep_push (kn := (16, (w32 n).toNat)) hP hS hz rfl o1 z9 (by
    rw [cellE_16 hM]
    show H1[xB X + M.length]? = some (vp_cell (xA X 4) _)
    rw [e1, vp_cell_q]
    refine congrArg some (congrArg (arrV _ _) (funext fun j => ?_))
    rw [z1_at]
    rfl)
  have kk := k p e s m args below meth c Rm hCC H1 locs (cells + 1) (slots + (w32 n).toNat) lsm hP1 hS1 hl (by simp; omega) (by simp [szM] at h2 ⊢; omega)
  rw [List.map_cons, pv_k] at kk
  rw [hz]
  exact kk
/-! returns -/
theorem ret_end {p : Program} {s : State} {m : MethodId} {args : Array Value} {meth : Method} {c : Code} {Rm : Room} {H : Heap} {locs : List Loc} (hC : Cx X d Me md Ms p s m args meth c Rm) (hP : Rep X M I R H) (hS : va_S (xO X) s.heap H locs) {t : State} (ht : t.heap = H) (hW : s.WarmedH t.vm) : Stt X t t.heap ∧ Rep X M I R t.heap :=
  ⟨Stt.later hC.2.2.2.2.2.2.1 hS ht hW, by rw [ht]; exact hP⟩
theorem P_iret {x : Int} (hr0 : md.2.2.2 = some .int) (hd : decode md.2.1 pc = .ok (.ireturn, 1)) (hQ : Q (0, x) I R) : PW X d Me md Ms pc ls [(0, x)] I R Me Q := by
  intro p e s m args below meth c Rm hC H locs cells slots lsm hP hS hl h1 h2
  rw [show Me.length - Ms.length = cells by omega, show szM Me - szM Ms = slots by omega, hr0]
  exact W.iret (v := Int32.ofInt x) hC.1 hC.2.1 (hC.2.2.1.trans hr0) (fun t ht hW => ⟨⟨_, (I, R), rfl, ⟨x, rfl, hQ⟩, ret_end hC hP hS ht hW⟩, hS.F ht⟩) hS.2.2 hd hC.2.2.2.2.2.2.2.1
theorem P_zret {x : Int} (hr0 : md.2.2.2 = some .boolean) (hx : x = 0 ∨ x = 1) (hd : decode md.2.1 pc = .ok (.ireturn, 1)) (hQ : Q (0, x) I R) : PW X d Me md Ms pc ls [(0, x)] I R Me Q := by
  intro p e s m args below meth c Rm hC H locs cells slots lsm hP hS hl h1 h2
  rw [show Me.length - Ms.length = cells by omega, show szM Me - szM Ms = slots by omega, hr0]
  exact W.zret (v := Int32.ofInt x) hC.1 hC.2.1 (hC.2.2.1.trans hr0) (by rcases hx with rfl | rfl <;> rfl) (fun t ht hW => ⟨⟨_, (I, R), rfl, ⟨x, rfl, hQ⟩, ret_end hC hP hS ht hW⟩, hS.F ht⟩) hS.2.2 hd hC.2.2.2.2.2.2.2.1
theorem P_lret {x : Int} (hr0 : md.2.2.2 = some .long) (hd : decode md.2.1 pc = .ok (.lreturn, 1)) (hQ : Q (1, x) I R) : PW X d Me md Ms pc ls [(1, x)] I R Me Q := by
  intro p e s m args below meth c Rm hC H locs cells slots lsm hP hS hl h1 h2
  rw [show Me.length - Ms.length = cells by omega, show szM Me - szM Ms = slots by omega, hr0]
  exact W.lret (v := Int64.ofInt x) hC.1 hC.2.1 (hC.2.2.1.trans hr0) (fun t ht hW => ⟨⟨_, (I, R), rfl, ⟨x, rfl, hQ⟩, ret_end hC hP hS ht hW⟩, hS.F ht⟩) hS.2.2 hd hC.2.2.2.2.2.2.2.1
theorem P_vret (hr0 : md.2.2.2 = none) (hd : decode md.2.1 pc = .ok (.return_, 1)) (hQ : Q (9, 0) I R) : PW X d Me md Ms pc ls [] I R Me Q := by
  intro p e s m args below meth c Rm hC H locs cells slots lsm hP hS hl h1 h2
  rw [show Me.length - Ms.length = cells by omega, show szM Me - szM Ms = slots by omega, hr0]
  exact W.vret hC.1 hC.2.1 (hC.2.2.1.trans hr0) (fun t ht hW => ⟨⟨(I, R), rfl, hQ, ret_end hC hP hS ht hW⟩, hS.F ht⟩) hS.2.2 hd hC.2.2.2.2.2.2.2.1
theorem P_aret {x : Int} {nm : String} (hr0 : md.2.2.2 = some (.object nm)) (hx : x ≠ 0) (hd : decode md.2.1 pc = .ok (.areturn, 1)) (hQ : Q (2, x) I R) : PW X d Me md Ms pc ls [(2, x)] I R Me Q := by
  intro p e s m args below meth c Rm hC H locs cells slots lsm hP hS hl h1 h2
  rw [show Me.length - Ms.length = cells by omega, show szM Me - szM Ms = slots by omega, hr0]
  have e : pv X (2, x) = .ref (ad X x) := by show va_rf (rv X x) = _; unfold rv; rw [if_neg hx]; rfl
  rw [List.map_cons, e]
  exact W.aret (v := .ref (ad X x)) hC.1 hC.2.1 (hC.2.2.1.trans hr0) (Or.inl ⟨_, rfl⟩) (Or.inr ⟨_, rfl⟩) (fun t ht hW => ⟨⟨(I, R, x), _, rfl, ⟨hx, hQ⟩, rfl, ret_end hC hP hS ht hW⟩, hS.F ht⟩) hS.2.2 hd hC.2.2.2.2.2.2.2.1
/-! references compared -/
theorem P_acmp0 {x y : Int} {s : State} {H : Heap} (h : Sta X s H) (hx : 0 ≤ x ∧ x ≤ 37) (hy : 0 ≤ y ∧ y ≤ 37) : rv X x = rv X y ↔ x = y := by
  refine ⟨fun e => ?_, fun e => by rw [e]⟩
  unfold rv at e
  by_cases x0 : x = 0
  · by_cases y0 : y = 0
    · omega
    · rw [if_pos x0, if_neg y0] at e; cases e
  · by_cases y0 : y = 0
    · rw [if_neg x0, if_pos y0] at e; cases e
    · rw [if_neg x0, if_neg y0, ad_s X (by omega), ad_s X (by omega)] at e
      have e2 := Option.some.inj e
      have := h.1.2 (x.toNat - 1) (y.toNat - 1) (by show _ < 37; omega) (by show _ < 37; omega) (by
        show xS X (x.toNat - 1 + 1) = xS X (y.toNat - 1 + 1)
        rw [show x.toNat - 1 + 1 = x.toNat by omega, show y.toNat - 1 + 1 = y.toNat by omega]
        exact e2)
      omega
theorem P_acmp_eq {x y off : Int} {t : Nat} (hx : 0 ≤ x ∧ x ≤ 37) (hy : 0 ≤ y ∧ y ≤ 37) (ht : (pc : Int) + off = (t : Int)) (hq : pc + 3 = q) (hd : decode md.2.1 pc = .ok (.if_acmp .eq off, 3)) (kt : x = y → PW X d Me md Ms t ls st I R M Q) (kf : x ≠ y → PW X d Me md Ms q ls st I R M Q) : PW X d Me md Ms pc ls ((2, y) :: (2, x) :: st) I R M Q := by
  intro p e s m args below meth c Rm hC H locs cells slots lsm hP hS hl h1 h2
  subst hq
  have hi := P_acmp0 hC.2.2.2.2.2.2.1.2.2.2.2 hx hy
  exact lv_acmp_eq (rx := rv X x) (ry := rv X y) hC.1 hC.2.1 hd ht (fun h => kt (hi.mp h) p e s m args below meth c Rm hC H locs cells slots lsm hP hS hl h1 h2) (fun h => kf (fun g => h (hi.mpr g)) p e s m args below meth c Rm hC H locs cells slots lsm hP hS hl h1 h2)
theorem P_acmp_ne {x y off : Int} {t : Nat} (hx : 0 ≤ x ∧ x ≤ 37) (hy : 0 ≤ y ∧ y ≤ 37) (ht : (pc : Int) + off = (t : Int)) (hq : pc + 3 = q) (hd : decode md.2.1 pc = .ok (.if_acmp .ne off, 3)) (kt : x ≠ y → PW X d Me md Ms t ls st I R M Q) (kf : x = y → PW X d Me md Ms q ls st I R M Q) : PW X d Me md Ms pc ls ((2, y) :: (2, x) :: st) I R M Q := by
  intro p e s m args below meth c Rm hC H locs cells slots lsm hP hS hl h1 h2
  subst hq
  have hi := P_acmp0 hC.2.2.2.2.2.2.1.2.2.2.2 hx hy
  exact lv_acmp_ne (rx := rv X x) (ry := rv X y) hC.1 hC.2.1 hd ht (fun h => kt (fun g => h (hi.mpr g)) p e s m args below meth c Rm hC H locs cells slots lsm hP hS hl h1 h2) (fun h => kf (hi.mp h) p e s m args below meth c Rm hC H locs cells slots lsm hP hS hl h1 h2)
/-! calls -/
def rpush (ret : Option FieldType) (v : PV) (st : List PV) : List PV := match ret with
  | none => st
  | some _ => v :: st
/-- the tag of what is answered -/
def rtag (ret : Option FieldType) : Nat := match ret with
  | none => 9
  | some .long => 1
  | some (.object _) => 2
  | some _ => 0
def rpushV (ret : Option FieldType) (v : Value) (st : List Value) : List Value := match ret with
  | none => st
  | some _ => v :: st
theorem call_go {p : Program} {e : Env} {s : State} {m : MethodId} {args : Array Value} {below : List Frame} {meth : Method} {c : Code} {Rm : Room} {H : Heap} {locs : List Loc} {cells slots mc ms : Nat} {Qf : State → Prop} {l : Launch} {lsm : Array Slot} {st0 rest : List Value} {ret : Option FieldType} {M' : PM} {Q' : PV → PF → PF → Prop} {a : Array Value}
    (hr : va_Run p l e Rm s m args below meth c H locs cells slots mc ms (F0 m pc lsm st0) rest (qO X ret M' Q' a) (xO X)) (hS : va_S (xO X) s.heap H locs)
    (kk : ∀ (z : Int) (I' R' : PF) (H1 : Heap) (locs1 : List Loc), Q' (rtag ret, z) I' R' → Rep X M' I' R' H1 → va_S (xO X) s.heap H1 locs1 → W p l e Rm s m args below meth c H1 locs1 (cells + mc) (slots + ms) Qf (F0 m (pc + 3) lsm (rpushV ret (pv X (rtag ret, z)) rest))) :
    W p l e Rm s m args below meth c H locs cells slots Qf (F0 m pc lsm st0) := by
  cases ret with
  | none => exact va_callv (a := a) hr hS (fun _ _ h => h) (fun _ h => h) (fun u t H1 locs1 ht hvm hp hB _ _ hS1 => kk 0 u.1 u.2 H1 locs1 hp (by rw [← ht]; exact hB.2) hS1)
  | some ty =>
    cases ty with
    | long => exact va_calll (a := a) hr hS (fun _ _ h => h) (fun _ h => h) (fun r u t H1 locs1 ht hvm hp hB _ _ hS1 => by
        obtain ⟨z, rfl, hq⟩ := hp
        exact kk z u.1 u.2 H1 locs1 hq (by rw [← ht]; exact hB.2) hS1)
    | object nm => exact va_callr (a := a) hr hS (fun _ _ h => h) (fun _ h => h) (fun u a9 t H1 locs1 ht hvm hp hB _ _ hS1 => by
        have h9 := kk u.2.2 u.1 u.2.1 H1 locs1 hp.2 (by rw [← ht]; exact hB.2.2) hS1
        have e9 : pv X (2, u.2.2) = .ref a9 := by rw [hB.1]; show va_rf (rv X u.2.2) = _; unfold rv; rw [if_neg hp.1]; rfl
        unfold rpushV rtag at h9
        simp only [e9] at h9
        exact h9)
    | _ => exact va_calli (a := a) hr hS (fun _ _ h => h) (fun _ h => h) (fun r u t H1 locs1 ht hvm hp hB _ _ hS1 => by
        obtain ⟨z, rfl, hq⟩ := hp
        exact kk z u.1 u.2 H1 locs1 hq (by rw [← ht]; exact hB.2) hS1)
end
