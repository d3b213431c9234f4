/-! ===== the instructions ===== -/
def w32 (x : Int) : Int := (Int32.ofInt x).toInt
def w64 (x : Int) : Int := (Int64.ofInt x).toInt
theorem w32_id {x : Int} (h1 : -2147483648 ≤ x) (h2 : x < 2147483648) : w32 x = x := Int32.toInt_ofInt_of_le (by simpa using h1) (by simpa using h2)
theorem w64_id {x : Int} (h1 : -9223372036854775808 ≤ x) (h2 : x < 9223372036854775808) : w64 x = x := Int64.toInt_ofInt_of_le (by simpa using h1) (by simpa using h2)
theorem w32_le (x : Int) : -2147483648 ≤ w32 x := Int32.le_toInt _
theorem w32_lt (x : Int) : w32 x < 2147483648 := Int32.toInt_lt _
theorem i_lt {x y : Int} : Int32.ofInt x < Int32.ofInt y ↔ w32 x < w32 y := Int32.lt_iff_toInt_lt
theorem i_le {x y : Int} : Int32.ofInt x ≤ Int32.ofInt y ↔ w32 x ≤ w32 y := Int32.le_iff_toInt_le
theorem i_eq {x y : Int} : Int32.ofInt x = Int32.ofInt y ↔ w32 x = w32 y := ⟨fun h => congrArg Int32.toInt h, fun h => Int32.toInt.inj h⟩
theorem l_eq {x y : Int} : Int64.ofInt x = Int64.ofInt y ↔ w64 x = w64 y := ⟨fun h => congrArg Int64.toInt h, fun h => Int64.toInt.inj h⟩
theorem w32_0 : w32 0 = 0 := rfl
theorem i_lt0 {x : Int} : Int32.ofInt x < 0 ↔ w32 x < 0 := i_lt (y := 0)
theorem i_le0 {x : Int} : Int32.ofInt x ≤ 0 ↔ w32 x ≤ 0 := i_le (y := 0)
theorem i_0lt {x : Int} : 0 < Int32.ofInt x ↔ 0 < w32 x := i_lt (x := 0)
theorem i_0le {x : Int} : 0 ≤ Int32.ofInt x ↔ 0 ≤ w32 x := i_le (x := 0)
theorem i_eq0 {x : Int} : Int32.ofInt x = 0 ↔ w32 x = 0 := i_eq (y := 0)
theorem i_nat (x : Int) : (Int32.ofInt x).toNatClampNeg = (w32 x).toNat := rfl
theorem i_in {x : Int} {n : Nat} (h1 : 0 ≤ w32 x) (h2 : w32 x < n) : vp_in (Int32.ofInt x) n := vp_in_iff.mpr ⟨h1, h2⟩
def u2 (f : PF) (o j v : Int) : PF := fun a b => if a = o ∧ b = j then v else f a b
def z1 (f : PF) (o : Int) : PF := fun a b => if a = o then 0 else f a b
section
variable {X : CX} {d : Nat} {Me Ms : PM} {md : MD} {pc q : Nat} {ls st : List PV} {I R : PF} {M : PM} {Q : PV → PF → PF → Prop}
theorem P_iconst {n : Int} (hq : pc + 1 = q) (hd : decode md.2.1 pc = .ok (.iconst n, 1)) (k : PW X d Me md Ms q ls ((0, n) :: st) I R M Q) : PW X d Me md Ms pc ls st I R M Q := by
  intro p e s m args below meth c Rm hC H locs cells slots lsm hP hS hl h1 h2
  subst hq
  exact lv_iconst hC.1 hC.2.1 hd rfl (k p e s m args below meth c Rm hC H locs cells slots lsm hP hS hl h1 h2)
theorem P_bipush {n : Int} (hv : (Int8.ofInt n).toInt32 = Int32.ofInt n) (hq : pc + 2 = q) (hd : decode md.2.1 pc = .ok (.bipush n, 2)) (k : PW X d Me md Ms q ls ((0, n) :: st) I R M Q) : PW X d Me md Ms pc ls st I R M Q := by
  intro p e s m args below meth c Rm hC H locs cells slots lsm hP hS hl h1 h2
  subst hq
  exact lv_bipush hC.1 hC.2.1 hd hv (k p e s m args below meth c Rm hC H locs cells slots lsm hP hS hl h1 h2)
theorem P_sipush {n : Int} (hv : (Int16.ofInt n).toInt32 = Int32.ofInt n) (hq : pc + 3 = q) (hd : decode md.2.1 pc = .ok (.sipush n, 3)) (k : PW X d Me md Ms q ls ((0, n) :: st) I R M Q) : PW X d Me md Ms pc ls st I R M Q := by
  intro p e s m args below meth c Rm hC H locs cells slots lsm hP hS hl h1 h2
  subst hq
  exact lv_sipush hC.1 hC.2.1 hd hv (k p e s m args below meth c Rm hC H locs cells slots lsm hP hS hl h1 h2)
theorem P_lconst {n : Fin 2} {x : Int} (hv : Int64.ofNat (n : Nat) = Int64.ofInt x) (hq : pc + 1 = q) (hd : decode md.2.1 pc = .ok (.lconst n, 1)) (k : PW X d Me md Ms q ls ((1, x) :: st) I R M Q) : PW X d Me md Ms pc ls st I R M Q := by
  intro p e s m args below meth c Rm hC H locs cells slots lsm hP hS hl h1 h2
  subst hq
  exact lv_lconst hC.1 hC.2.1 hd hv (k p e s m args below meth c Rm hC H locs cells slots lsm hP hS hl h1 h2)
theorem P_ldc2 {ix : Nat} {v : Int64} {x : Int} (hv : v = Int64.ofInt x) (hw : Cond.constantLong md.1.cls ix v ∈ tG) (hq : pc + 3 = q) (hd : decode md.2.1 pc = .ok (.ldc2_w ix, 3)) (k : PW X d Me md Ms q ls ((1, x) :: st) I R M Q) : PW X d Me md Ms pc ls st I R M Q := by
  intro p e s m args below meth c Rm hC H locs cells slots lsm hP hS hl h1 h2
  subst hq
  subst hv
  exact lv_ldc2 hC.1 hC.2.1 hC.2.2.2.2.1 (hC.2.2.2.2.2.1 _ hw) hd (k p e s m args below meth c Rm hC H locs cells slots lsm hP hS hl h1 h2)
theorem P_ldcw {ix : Nat} {v : Int32} {x : Int} (hv : v = Int32.ofInt x) (hw : Cond.constant md.1.cls ix v ∈ tG) (hq : pc + 3 = q) (hd : decode md.2.1 pc = .ok (.ldc_w ix, 3)) (k : PW X d Me md Ms q ls ((0, x) :: st) I R M Q) : PW X d Me md Ms pc ls st I R M Q := by
  intro p e s m args below meth c Rm hC H locs cells slots lsm hP hS hl h1 h2
  subst hq
  subst hv
  exact lv_ldcw hC.1 hC.2.1 hC.2.2.2.2.1 (hC.2.2.2.2.2.1 _ hw) hd (k p e s m args below meth c Rm hC H locs cells slots lsm hP hS hl h1 h2)
theorem P_ldc {ix : Nat} {v : Int32} {x : Int} (hv : v = Int32.ofInt x) (hw : Cond.constant md.1.cls ix v ∈ tG) (hq : pc + 2 = q) (hd : decode md.2.1 pc = .ok (.ldc ix, 2)) (k : PW X d Me md Ms q ls ((0, x) :: st) I R M Q) : PW X d Me md Ms pc ls st I R M Q := by
  intro p e s m args below meth c Rm hC H locs cells slots lsm hP hS hl h1 h2
  subst hq
  subst hv
  exact lv_ldc hC.1 hC.2.1 hC.2.2.2.2.1 (hC.2.2.2.2.2.1 _ hw) hd (k p e s m args below meth c Rm hC H locs cells slots lsm hP hS hl h1 h2)
theorem P_anull  (hq : pc + 1 = q) (hd : decode md.2.1 pc = .ok (.aconst_null, 1)) (k : PW X d Me md Ms q ls ((2, 0) :: st) I R M Q) : PW X d Me md Ms pc ls st I R M Q := by
  intro p e s m args below meth c Rm hC H locs cells slots lsm hP hS hl h1 h2
  subst hq
  exact lv_null hC.1 hC.2.1 hd (k p e s m args below meth c Rm hC H locs cells slots lsm hP hS hl h1 h2)
theorem P_iload {n : Nat} {x : Int} (hv : gL n ls = (0, x)) (hq : pc + 2 = q) (hd : decode md.2.1 pc = .ok (.iload n, 2)) (k : PW X d Me md Ms q ls ((0, x) :: st) I R M Q) : PW X d Me md Ms pc ls st I R M Q := by
  intro p e s m args below meth c Rm hC H locs cells slots lsm hP hS hl h1 h2
  subst hq
  exact lv_iload hC.1 hC.2.1 hd (lv_get hl hv (Nat.ne_of_beq_eq_false rfl)) (k p e s m args below meth c Rm hC H locs cells slots lsm hP hS hl h1 h2)
theorem P_iload_n {n : Fin 4} {x : Int} (hv : gL n ls = (0, x)) (hq : pc + 1 = q) (hd : decode md.2.1 pc = .ok (.iload_n n, 1)) (k : PW X d Me md Ms q ls ((0, x) :: st) I R M Q) : PW X d Me md Ms pc ls st I R M Q := by
  intro p e s m args below meth c Rm hC H locs cells slots lsm hP hS hl h1 h2
  subst hq
  exact lv_iload_n hC.1 hC.2.1 hd rfl (lv_get hl hv (Nat.ne_of_beq_eq_false rfl)) (k p e s m args below meth c Rm hC H locs cells slots lsm hP hS hl h1 h2)
theorem P_lload {n : Nat} {x : Int} (hv : gL n ls = (1, x)) (hq : pc + 2 = q) (hd : decode md.2.1 pc = .ok (.lload n, 2)) (k : PW X d Me md Ms q ls ((1, x) :: st) I R M Q) : PW X d Me md Ms pc ls st I R M Q := by
  intro p e s m args below meth c Rm hC H locs cells slots lsm hP hS hl h1 h2
  subst hq
  exact lv_lload hC.1 hC.2.1 hd (lv_get hl hv (Nat.ne_of_beq_eq_false rfl)) (k p e s m args below meth c Rm hC H locs cells slots lsm hP hS hl h1 h2)
theorem P_lload_n {n : Fin 4} {x : Int} (hv : gL n ls = (1, x)) (hq : pc + 1 = q) (hd : decode md.2.1 pc = .ok (.lload_n n, 1)) (k : PW X d Me md Ms q ls ((1, x) :: st) I R M Q) : PW X d Me md Ms pc ls st I R M Q := by
  intro p e s m args below meth c Rm hC H locs cells slots lsm hP hS hl h1 h2
  subst hq
  exact lv_lload_n hC.1 hC.2.1 hd rfl (lv_get hl hv (Nat.ne_of_beq_eq_false rfl)) (k p e s m args below meth c Rm hC H locs cells slots lsm hP hS hl h1 h2)
theorem P_aload {n : Nat} {x : Int} (hv : gL n ls = (2, x)) (hq : pc + 2 = q) (hd : decode md.2.1 pc = .ok (.aload n, 2)) (k : PW X d Me md Ms q ls ((2, x) :: st) I R M Q) : PW X d Me md Ms pc ls st I R M Q := by
  intro p e s m args below meth c Rm hC H locs cells slots lsm hP hS hl h1 h2
  subst hq
  have hg := lv_get hl hv (Nat.ne_of_beq_eq_false rfl)
  have kk := k p e s m args below meth c Rm hC H locs cells slots lsm hP hS hl h1 h2
  have e : pv X (2, x) = va_rf (rv X x) := rfl
  rw [List.map_cons, e] at kk
  rw [e] at hg
  cases hr : rv X x with
  | none => rw [hr] at hg kk; exact lv_aloadN hC.1 hC.2.1 hd hg kk
  | some y => rw [hr] at hg kk; exact lv_aload hC.1 hC.2.1 hd hg kk
theorem P_aload_n {n : Fin 4} {x : Int} (hv : gL n ls = (2, x)) (hq : pc + 1 = q) (hd : decode md.2.1 pc = .ok (.aload_n n, 1)) (k : PW X d Me md Ms q ls ((2, x) :: st) I R M Q) : PW X d Me md Ms pc ls st I R M Q := by
  intro p e s m args below meth c Rm hC H locs cells slots lsm hP hS hl h1 h2
  subst hq
  have hg := lv_get hl hv (Nat.ne_of_beq_eq_false rfl)
  have kk := k p e s m args below meth c Rm hC H locs cells slots lsm hP hS hl h1 h2
  have e : pv X (2, x) = va_rf (rv X x) := rfl
  rw [List.map_cons, e] at kk
  rw [e] at hg
  cases hr : rv X x with
  | none => rw [hr] at hg kk; exact lv_aload_nN hC.1 hC.2.1 hd rfl hg kk
  | some y => rw [hr] at hg kk; exact lv_aload_n hC.1 hC.2.1 hd rfl hg kk
theorem P_istore {n : Nat} {x : Int} (hn : (n : Nat) < md.2.2.1) (hq : pc + 2 = q) (hd : decode md.2.1 pc = .ok (.istore n, 2)) (k : PW X d Me md Ms q (sL n (0, x) ls) st I R M Q) : PW X d Me md Ms pc ls ((0, x) :: st) I R M Q := by
  intro p e s m args below meth c Rm hC H locs cells slots lsm hP hS hl h1 h2
  subst hq
  exact lv_istore hC.1 hC.2.1 hd hl hn rfl (fun lsm2 hl2 => (k p e s m args below meth c Rm hC H locs cells slots lsm2 hP hS (lv_mono hl2 lvL_sL) h1 h2))
theorem P_istore_n {n : Fin 4} {x : Int} (hn : (n : Nat) < md.2.2.1) (hq : pc + 1 = q) (hd : decode md.2.1 pc = .ok (.istore_n n, 1)) (k : PW X d Me md Ms q (sL n (0, x) ls) st I R M Q) : PW X d Me md Ms pc ls ((0, x) :: st) I R M Q := by
  intro p e s m args below meth c Rm hC H locs cells slots lsm hP hS hl h1 h2
  subst hq
  exact lv_istore_n hC.1 hC.2.1 hd rfl hl hn rfl (fun lsm2 hl2 => (k p e s m args below meth c Rm hC H locs cells slots lsm2 hP hS (lv_mono hl2 lvL_sL) h1 h2))
theorem P_lstore {n : Nat} {x : Int} (hn : (n : Nat) + 1 < md.2.2.1) (hq : pc + 2 = q) (hd : decode md.2.1 pc = .ok (.lstore n, 2)) (k : PW X d Me md Ms q (sL2 n (1, x) ls) st I R M Q) : PW X d Me md Ms pc ls ((1, x) :: st) I R M Q := by
  intro p e s m args below meth c Rm hC H locs cells slots lsm hP hS hl h1 h2
  subst hq
  exact lv_lstore hC.1 hC.2.1 hd hl hn rfl (fun lsm2 hl2 => (k p e s m args below meth c Rm hC H locs cells slots lsm2 hP hS (lv_mono hl2 lvL_sL2) h1 h2))
theorem P_lstore_n {n : Fin 4} {x : Int} (hn : (n : Nat) + 1 < md.2.2.1) (hq : pc + 1 = q) (hd : decode md.2.1 pc = .ok (.lstore_n n, 1)) (k : PW X d Me md Ms q (sL2 n (1, x) ls) st I R M Q) : PW X d Me md Ms pc ls ((1, x) :: st) I R M Q := by
  intro p e s m args below meth c Rm hC H locs cells slots lsm hP hS hl h1 h2
  subst hq
  exact lv_lstore_n hC.1 hC.2.1 hd rfl hl hn rfl (fun lsm2 hl2 => (k p e s m args below meth c Rm hC H locs cells slots lsm2 hP hS (lv_mono hl2 lvL_sL2) h1 h2))
theorem P_astore {n : Nat} {x : Int} (hn : (n : Nat) < md.2.2.1) (hq : pc + 2 = q) (hd : decode md.2.1 pc = .ok (.astore n, 2)) (k : PW X d Me md Ms q (sL n (2, x) ls) st I R M Q) : PW X d Me md Ms pc ls ((2, x) :: st) I R M Q := by
  intro p e s m args below meth c Rm hC H locs cells slots lsm hP hS hl h1 h2
  subst hq
  have e7 : pv X (2, x) = va_rf (rv X x) := rfl
  have h9 := lvL_sL (X := X) (n := n) (v := (2, x)) (ls := ls)
  rw [List.map_cons, e7]
  rw [e7] at h9
  cases hr : rv X x with
  | none => rw [hr] at h9; exact lv_astoreN hC.1 hC.2.1 hd hl hn rfl (fun lsm2 hl2 => (k p e s m args below meth c Rm hC H locs cells slots lsm2 hP hS (lv_mono hl2 h9) h1 h2))
  | some y => rw [hr] at h9; exact lv_astore hC.1 hC.2.1 hd hl hn rfl (fun lsm2 hl2 => (k p e s m args below meth c Rm hC H locs cells slots lsm2 hP hS (lv_mono hl2 h9) h1 h2))
theorem P_astore_n {n : Fin 4} {x : Int} (hn : (n : Nat) < md.2.2.1) (hq : pc + 1 = q) (hd : decode md.2.1 pc = .ok (.astore_n n, 1)) (k : PW X d Me md Ms q (sL n (2, x) ls) st I R M Q) : PW X d Me md Ms pc ls ((2, x) :: st) I R M Q := by
  intro p e s m args below meth c Rm hC H locs cells slots lsm hP hS hl h1 h2
  subst hq
  have e7 : pv X (2, x) = va_rf (rv X x) := rfl
  have h9 := lvL_sL (X := X) (n := n) (v := (2, x)) (ls := ls)
  rw [List.map_cons, e7]
  rw [e7] at h9
  cases hr : rv X x with
  | none => rw [hr] at h9; exact lv_astore_nN hC.1 hC.2.1 hd rfl hl hn rfl (fun lsm2 hl2 => (k p e s m args below meth c Rm hC H locs cells slots lsm2 hP hS (lv_mono hl2 h9) h1 h2))
  | some y => rw [hr] at h9; exact lv_astore_n hC.1 hC.2.1 hd rfl hl hn rfl (fun lsm2 hl2 => (k p e s m args below meth c Rm hC H locs cells slots lsm2 hP hS (lv_mono hl2 h9) h1 h2))
theorem P_iinc {n : Nat} {a x : Int} (hn : n < md.2.2.1) (hv : gL n ls = (0, x)) (hq : pc + 3 = q) (hd : decode md.2.1 pc = .ok (.iinc n a, 3)) (k : PW X d Me md Ms q (sL n (0, x + a) ls) st I R M Q) : PW X d Me md Ms pc ls st I R M Q := by
  intro p e s m args below meth c Rm hC H locs cells slots lsm hP hS hl h1 h2
  subst hq
  have hm : (n, pv X (0, x)) ∈ lvL X 0 ls := lvL_mem.mpr ⟨n, by rw [hv]; exact Nat.ne_of_beq_eq_false rfl, by rw [hv, Nat.zero_add]⟩
  obtain ⟨k9, hk9⟩ := List.getElem?_of_mem hm
  have h9 := lvL_sL (X := X) (n := n) (v := (0, x + a)) (ls := ls)
  exact lv_iinc (v := Int32.ofInt (x + a)) hC.1 hC.2.1 hd hl hk9 (Int32.ofInt_add x a).symm hn rfl (fun lsm2 hl2 => (k p e s m args below meth c Rm hC H locs cells slots lsm2 hP hS (lv_mono hl2 h9) h1 h2))
theorem P_iadd {x y : Int} (hq : pc + 1 = q) (hd : decode md.2.1 pc = .ok (.iadd, 1)) (k : PW X d Me md Ms q ls ((0, x + y) :: st) I R M Q) : PW X d Me md Ms pc ls ((0, y) :: (0, x) :: st) I R M Q := by
  intro p e s m args below meth c Rm hC H locs cells slots lsm hP hS hl h1 h2
  subst hq
  have kk := k p e s m args below meth c Rm hC H locs cells slots lsm hP hS hl h1 h2
  rw [List.map_cons, show pv X (0, x + y) = .int (Int32.ofInt x + Int32.ofInt y) from congrArg Value.int (Int32.ofInt_add x y)] at kk
  exact lv_iadd hC.1 hC.2.1 hd kk
theorem P_isub {x y : Int} (hq : pc + 1 = q) (hd : decode md.2.1 pc = .ok (.isub, 1)) (k : PW X d Me md Ms q ls ((0, x - y) :: st) I R M Q) : PW X d Me md Ms pc ls ((0, y) :: (0, x) :: st) I R M Q := by
  intro p e s m args below meth c Rm hC H locs cells slots lsm hP hS hl h1 h2
  subst hq
  have kk := k p e s m args below meth c Rm hC H locs cells slots lsm hP hS hl h1 h2
  rw [List.map_cons, show pv X (0, x - y) = .int (Int32.ofInt x - Int32.ofInt y) from congrArg Value.int (Int32.ofInt_sub x y)] at kk
  exact lv_isub hC.1 hC.2.1 hd kk
theorem P_imul {x y : Int} (hq : pc + 1 = q) (hd : decode md.2.1 pc = .ok (.imul, 1)) (k : PW X d Me md Ms q ls ((0, x * y) :: st) I R M Q) : PW X d Me md Ms pc ls ((0, y) :: (0, x) :: st) I R M Q := by
  intro p e s m args below meth c Rm hC H locs cells slots lsm hP hS hl h1 h2
  subst hq
  have kk := k p e s m args below meth c Rm hC H locs cells slots lsm hP hS hl h1 h2
  rw [List.map_cons, show pv X (0, x * y) = .int (Int32.ofInt x * Int32.ofInt y) from congrArg Value.int (Int32.ofInt_mul x y)] at kk
  exact lv_imul hC.1 hC.2.1 hd kk
theorem P_ladd {x y : Int} (hq : pc + 1 = q) (hd : decode md.2.1 pc = .ok (.ladd, 1)) (k : PW X d Me md Ms q ls ((1, x + y) :: st) I R M Q) : PW X d Me md Ms pc ls ((1, y) :: (1, x) :: st) I R M Q := by
  intro p e s m args below meth c Rm hC H locs cells slots lsm hP hS hl h1 h2
  subst hq
  have kk := k p e s m args below meth c Rm hC H locs cells slots lsm hP hS hl h1 h2
  rw [List.map_cons, show pv X (1, x + y) = .long (Int64.ofInt x + Int64.ofInt y) from congrArg Value.long (Int64.ofInt_add x y)] at kk
  exact lv_ladd hC.1 hC.2.1 hd kk
theorem P_lsub {x y : Int} (hq : pc + 1 = q) (hd : decode md.2.1 pc = .ok (.lsub, 1)) (k : PW X d Me md Ms q ls ((1, x - y) :: st) I R M Q) : PW X d Me md Ms pc ls ((1, y) :: (1, x) :: st) I R M Q := by
  intro p e s m args below meth c Rm hC H locs cells slots lsm hP hS hl h1 h2
  subst hq
  have kk := k p e s m args below meth c Rm hC H locs cells slots lsm hP hS hl h1 h2
  rw [List.map_cons, show pv X (1, x - y) = .long (Int64.ofInt x - Int64.ofInt y) from congrArg Value.long (Int64.ofInt_sub x y)] at kk
  exact lv_lsub hC.1 hC.2.1 hd kk
theorem P_lmul {x y : Int} (hq : pc + 1 = q) (hd : decode md.2.1 pc = .ok (.lmul, 1)) (k : PW X d Me md Ms q ls ((1, x * y) :: st) I R M Q) : PW X d Me md Ms pc ls ((1, y) :: (1, x) :: st) I R M Q := by
  intro p e s m args below meth c Rm hC H locs cells slots lsm hP hS hl h1 h2
  subst hq
  have kk := k p e s m args below meth c Rm hC H locs cells slots lsm hP hS hl h1 h2
  rw [List.map_cons, show pv X (1, x * y) = .long (Int64.ofInt x * Int64.ofInt y) from congrArg Value.long (Int64.ofInt_mul x y)] at kk
  exact lv_lmul hC.1 hC.2.1 hd kk
theorem q32 (x y : Int) : Int32.ofInt x / Int32.ofInt y = Int32.ofInt ((w32 x).tdiv (w32 y)) := Int32.toInt.inj (by rw [Int32.toInt_div]; exact Int32.toInt_ofInt.symm)
theorem q64 (x y : Int) : Int64.ofInt x / Int64.ofInt y = Int64.ofInt ((w64 x).tdiv (w64 y)) := Int64.toInt.inj (by rw [Int64.toInt_div]; exact Int64.toInt_ofInt.symm)
theorem ii32 (x : Int) : Int32.ofInt (w32 x) = Int32.ofInt x := Int32.ofInt_toInt _
theorem ii64 (x : Int) : Int64.ofInt (w64 x) = Int64.ofInt x := Int64.ofInt_toInt _
theorem r32 (x y : Int) : Int32.ofInt x - Int32.ofInt x / Int32.ofInt y * Int32.ofInt y = Int32.ofInt ((w32 x).tmod (w32 y)) := by
  rw [q32, ← ii32 x, ← ii32 y, ← Int32.ofInt_mul, ← Int32.ofInt_sub]
  congr 1
  have e1 : w32 (w32 x) = w32 x := w32_id (w32_le x) (w32_lt x)
  have e2 : w32 (w32 y) = w32 y := w32_id (w32_le y) (w32_lt y)
  rw [Int.tmod_def, Int.mul_comm]
theorem r64 (x y : Int) : Int64.ofInt x - Int64.ofInt x / Int64.ofInt y * Int64.ofInt y = Int64.ofInt ((w64 x).tmod (w64 y)) := by
  rw [q64, ← ii64 x, ← ii64 y, ← Int64.ofInt_mul, ← Int64.ofInt_sub]
  congr 1
  have e1 : w64 (w64 x) = w64 x := congrArg Int64.toInt (ii64 x)
  have e2 : w64 (w64 y) = w64 y := congrArg Int64.toInt (ii64 y)
  rw [Int.tmod_def, Int.mul_comm]
theorem P_idiv {x y : Int} (hy : w32 y ≠ 0) (hq : pc + 1 = q) (hd : decode md.2.1 pc = .ok (.idiv, 1)) (k : PW X d Me md Ms q ls ((0, (w32 x).tdiv (w32 y)) :: st) I R M Q) : PW X d Me md Ms pc ls ((0, y) :: (0, x) :: st) I R M Q := by
  intro p e s m args below meth c Rm hC H locs cells slots lsm hP hS hl h1 h2
  subst hq
  have kk := k p e s m args below meth c Rm hC H locs cells slots lsm hP hS hl h1 h2
  rw [List.map_cons, show pv X (0, (w32 x).tdiv (w32 y)) = .int (Int32.ofInt x / Int32.ofInt y) from congrArg Value.int (q32 x y).symm] at kk
  exact lv_idiv hC.1 hC.2.1 hd (fun h => hy (congrArg Int32.toInt h)) kk
theorem P_irem {x y : Int} (hy : w32 y ≠ 0) (hq : pc + 1 = q) (hd : decode md.2.1 pc = .ok (.irem, 1)) (k : PW X d Me md Ms q ls ((0, (w32 x).tmod (w32 y)) :: st) I R M Q) : PW X d Me md Ms pc ls ((0, y) :: (0, x) :: st) I R M Q := by
  intro p e s m args below meth c Rm hC H locs cells slots lsm hP hS hl h1 h2
  subst hq
  have kk := k p e s m args below meth c Rm hC H locs cells slots lsm hP hS hl h1 h2
  rw [List.map_cons, show pv X (0, (w32 x).tmod (w32 y)) = .int (Int32.ofInt x - Int32.ofInt x / Int32.ofInt y * Int32.ofInt y) from congrArg Value.int (r32 x y).symm] at kk
  exact lv_irem hC.1 hC.2.1 hd (fun h => hy (congrArg Int32.toInt h)) kk
theorem P_ldiv {x y : Int} (hy : w64 y ≠ 0) (hq : pc + 1 = q) (hd : decode md.2.1 pc = .ok (.ldiv, 1)) (k : PW X d Me md Ms q ls ((1, (w64 x).tdiv (w64 y)) :: st) I R M Q) : PW X d Me md Ms pc ls ((1, y) :: (1, x) :: st) I R M Q := by
  intro p e s m args below meth c Rm hC H locs cells slots lsm hP hS hl h1 h2
  subst hq
  have kk := k p e s m args below meth c Rm hC H locs cells slots lsm hP hS hl h1 h2
  rw [List.map_cons, show pv X (1, (w64 x).tdiv (w64 y)) = .long (Int64.ofInt x / Int64.ofInt y) from congrArg Value.long (q64 x y).symm] at kk
  exact lv_ldiv hC.1 hC.2.1 hd (fun h => hy (congrArg Int64.toInt h)) kk
theorem P_lrem {x y : Int} (hy : w64 y ≠ 0) (hq : pc + 1 = q) (hd : decode md.2.1 pc = .ok (.lrem, 1)) (k : PW X d Me md Ms q ls ((1, (w64 x).tmod (w64 y)) :: st) I R M Q) : PW X d Me md Ms pc ls ((1, y) :: (1, x) :: st) I R M Q := by
  intro p e s m args below meth c Rm hC H locs cells slots lsm hP hS hl h1 h2
  subst hq
  have kk := k p e s m args below meth c Rm hC H locs cells slots lsm hP hS hl h1 h2
  rw [List.map_cons, show pv X (1, (w64 x).tmod (w64 y)) = .long (Int64.ofInt x - Int64.ofInt x / Int64.ofInt y * Int64.ofInt y) from congrArg Value.long (r64 x y).symm] at kk
  exact lv_lrem hC.1 hC.2.1 hd (fun h => hy (congrArg Int64.toInt h)) kk
theorem P_iand {x y : Int} (hq : pc + 1 = q) (hd : decode md.2.1 pc = .ok (.iand, 1)) (k : PW X d Me md Ms q ls ((0, (Int32.ofInt x &&& Int32.ofInt y).toInt) :: st) I R M Q) : PW X d Me md Ms pc ls ((0, y) :: (0, x) :: st) I R M Q := by
  intro p e s m args below meth c Rm hC H locs cells slots lsm hP hS hl h1 h2
  subst hq
  have kk := k p e s m args below meth c Rm hC H locs cells slots lsm hP hS hl h1 h2
  rw [List.map_cons, show pv X (0, (Int32.ofInt x &&& Int32.ofInt y).toInt) = .int (Int32.ofInt x &&& Int32.ofInt y) from congrArg Value.int (Int32.ofInt_toInt _)] at kk
  exact lv_iand hC.1 hC.2.1 hd kk
theorem P_ior {x y : Int} (hq : pc + 1 = q) (hd : decode md.2.1 pc = .ok (.ior, 1)) (k : PW X d Me md Ms q ls ((0, (Int32.ofInt x ||| Int32.ofInt y).toInt) :: st) I R M Q) : PW X d Me md Ms pc ls ((0, y) :: (0, x) :: st) I R M Q := by
  intro p e s m args below meth c Rm hC H locs cells slots lsm hP hS hl h1 h2
  subst hq
  have kk := k p e s m args below meth c Rm hC H locs cells slots lsm hP hS hl h1 h2
  rw [List.map_cons, show pv X (0, (Int32.ofInt x ||| Int32.ofInt y).toInt) = .int (Int32.ofInt x ||| Int32.ofInt y) from congrArg Value.int (Int32.ofInt_toInt _)] at kk
  exact lv_ior hC.1 hC.2.1 hd kk
theorem P_land {x y : Int} (hq : pc + 1 = q) (hd : decode md.2.1 pc = .ok (.land, 1)) (k : PW X d Me md Ms q ls ((1, (Int64.ofInt x &&& Int64.ofInt y).toInt) :: st) I R M Q) : PW X d Me md Ms pc ls ((1, y) :: (1, x) :: st) I R M Q := by
  intro p e s m args below meth c Rm hC H locs cells slots lsm hP hS hl h1 h2
  subst hq
  have kk := k p e s m args below meth c Rm hC H locs cells slots lsm hP hS hl h1 h2
  rw [List.map_cons, show pv X (1, (Int64.ofInt x &&& Int64.ofInt y).toInt) = .long (Int64.ofInt x &&& Int64.ofInt y) from congrArg Value.long (Int64.ofInt_toInt _)] at kk
  exact lv_land hC.1 hC.2.1 hd kk
theorem P_lor {x y : Int} (hq : pc + 1 = q) (hd : decode md.2.1 pc = .ok (.lor, 1)) (k : PW X d Me md Ms q ls ((1, (Int64.ofInt x ||| Int64.ofInt y).toInt) :: st) I R M Q) : PW X d Me md Ms pc ls ((1, y) :: (1, x) :: st) I R M Q := by
  intro p e s m args below meth c Rm hC H locs cells slots lsm hP hS hl h1 h2
  subst hq
  have kk := k p e s m args below meth c Rm hC H locs cells slots lsm hP hS hl h1 h2
  rw [List.map_cons, show pv X (1, (Int64.ofInt x ||| Int64.ofInt y).toInt) = .long (Int64.ofInt x ||| Int64.ofInt y) from congrArg Value.long (Int64.ofInt_toInt _)] at kk
  exact lv_lor hC.1 hC.2.1 hd kk
theorem P_lxor {x y : Int} (hq : pc + 1 = q) (hd : decode md.2.1 pc = .ok (.lxor, 1)) (k : PW X d Me md Ms q ls ((1, (Int64.ofInt x ^^^ Int64.ofInt y).toInt) :: st) I R M Q) : PW X d Me md Ms pc ls ((1, y) :: (1, x) :: st) I R M Q := by
  intro p e s m args below meth c Rm hC H locs cells slots lsm hP hS hl h1 h2
  subst hq
  have kk := k p e s m args below meth c Rm hC H locs cells slots lsm hP hS hl h1 h2
  rw [List.map_cons, show pv X (1, (Int64.ofInt x ^^^ Int64.ofInt y).toInt) = .long (Int64.ofInt x ^^^ Int64.ofInt y) from congrArg Value.long (Int64.ofInt_toInt _)] at kk
  exact lv_lxor hC.1 hC.2.1 hd kk
theorem P_ixor {x y : Int} (hq : pc + 1 = q) (hd : decode md.2.1 pc = .ok (.ixor, 1)) (k : PW X d Me md Ms q ls ((0, (Int32.ofInt x ^^^ Int32.ofInt y).toInt) :: st) I R M Q) : PW X d Me md Ms pc ls ((0, y) :: (0, x) :: st) I R M Q := by
  intro p e s m args below meth c Rm hC H locs cells slots lsm hP hS hl h1 h2
  subst hq
  have kk := k p e s m args below meth c Rm hC H locs cells slots lsm hP hS hl h1 h2
  rw [List.map_cons, show pv X (0, (Int32.ofInt x ^^^ Int32.ofInt y).toInt) = .int (Int32.ofInt x ^^^ Int32.ofInt y) from congrArg Value.int (Int32.ofInt_toInt _)] at kk
  exact lv_ixor hC.1 hC.2.1 hd kk
def shl32 (x y : Int) : Int := (Int32.ofInt x <<< (Int32.ofInt y &&& 31)).toInt
def shr32 (x y : Int) : Int := (Int32.ofInt x >>> (Int32.ofInt y &&& 31)).toInt
def ushr32 (x y : Int) : Int := ((Int32.ofInt x).toUInt32 >>> ((Int32.ofInt y).toUInt32 &&& Int32.toUInt32 31)).toInt32.toInt
theorem P_ishl {x y : Int} (hq : pc + 1 = q) (hd : decode md.2.1 pc = .ok (.ishl, 1)) (k : PW X d Me md Ms q ls ((0, shl32 x y) :: st) I R M Q) : PW X d Me md Ms pc ls ((0, y) :: (0, x) :: st) I R M Q := by
  intro p e s m args below meth c Rm hC H locs cells slots lsm hP hS hl h1 h2
  subst hq
  have kk := k p e s m args below meth c Rm hC H locs cells slots lsm hP hS hl h1 h2
  rw [List.map_cons, show pv X (0, shl32 x y) = .int (Int32.ofInt x <<< (Int32.ofInt y &&& 31)) from congrArg Value.int (Int32.ofInt_toInt _)] at kk
  exact lv_ishl hC.1 hC.2.1 hd kk
theorem P_ishr {x y : Int} (hq : pc + 1 = q) (hd : decode md.2.1 pc = .ok (.ishr, 1)) (k : PW X d Me md Ms q ls ((0, shr32 x y) :: st) I R M Q) : PW X d Me md Ms pc ls ((0, y) :: (0, x) :: st) I R M Q := by
  intro p e s m args below meth c Rm hC H locs cells slots lsm hP hS hl h1 h2
  subst hq
  have kk := k p e s m args below meth c Rm hC H locs cells slots lsm hP hS hl h1 h2
  rw [List.map_cons, show pv X (0, shr32 x y) = .int (Int32.ofInt x >>> (Int32.ofInt y &&& 31)) from congrArg Value.int (Int32.ofInt_toInt _)] at kk
  exact lv_ishr hC.1 hC.2.1 hd kk
theorem P_iushr {x y : Int} (hq : pc + 1 = q) (hd : decode md.2.1 pc = .ok (.iushr, 1)) (k : PW X d Me md Ms q ls ((0, ushr32 x y) :: st) I R M Q) : PW X d Me md Ms pc ls ((0, y) :: (0, x) :: st) I R M Q := by
  intro p e s m args below meth c Rm hC H locs cells slots lsm hP hS hl h1 h2
  subst hq
  exact lv_iushr hC.1 hC.2.1 hd (Int32.ofInt_toInt _).symm (k p e s m args below meth c Rm hC H locs cells slots lsm hP hS hl h1 h2)
theorem P_ineg {x : Int} (hq : pc + 1 = q) (hd : decode md.2.1 pc = .ok (.ineg, 1)) (k : PW X d Me md Ms q ls ((0, -x) :: st) I R M Q) : PW X d Me md Ms pc ls ((0, x) :: st) I R M Q := by
  intro p e s m args below meth c Rm hC H locs cells slots lsm hP hS hl h1 h2
  subst hq
  have kk := k p e s m args below meth c Rm hC H locs cells slots lsm hP hS hl h1 h2
  rw [List.map_cons, show pv X (0, -x) = .int (-(Int32.ofInt x)) from congrArg Value.int (Int32.ofInt_neg x)] at kk
  exact lv_ineg hC.1 hC.2.1 hd kk
theorem P_i2l {x : Int} (hq : pc + 1 = q) (hd : decode md.2.1 pc = .ok (.i2l, 1)) (k : PW X d Me md Ms q ls ((1, w32 x) :: st) I R M Q) : PW X d Me md Ms pc ls ((0, x) :: st) I R M Q := by
  intro p e s m args below meth c Rm hC H locs cells slots lsm hP hS hl h1 h2
  subst hq
  exact lv_i2l hC.1 hC.2.1 hd (Int64.toInt.inj (by rw [Int32.toInt_toInt64]; exact (w64_id (x := w32 x) (by have := w32_le x; omega) (by have := w32_lt x; omega)).symm)) (k p e s m args below meth c Rm hC H locs cells slots lsm hP hS hl h1 h2)
theorem P_l2i {x : Int} (hq : pc + 1 = q) (hd : decode md.2.1 pc = .ok (.l2i, 1)) (k : PW X d Me md Ms q ls ((0, x) :: st) I R M Q) : PW X d Me md Ms pc ls ((1, x) :: st) I R M Q := by
  intro p e s m args below meth c Rm hC H locs cells slots lsm hP hS hl h1 h2
  subst hq
  exact lv_l2i hC.1 hC.2.1 hd Int64.toInt32_ofInt (k p e s m args below meth c Rm hC H locs cells slots lsm hP hS hl h1 h2)
def cmpL (x y : Int) : Int := if w64 y < w64 x then 1 else if w64 x = w64 y then 0 else -1
theorem cmpL_eq (x y : Int) : lg_cmp (Int64.ofInt x) (Int64.ofInt y) = Int32.ofInt (cmpL x y) := by
  unfold lg_cmp cmpL
  by_cases h1 : w64 y < w64 x
  · rw [if_pos h1, if_pos (show Int64.ofInt x > Int64.ofInt y from Int64.lt_iff_toInt_lt.mpr h1)]; rfl
  · rw [if_neg h1, if_neg (show ¬ Int64.ofInt x > Int64.ofInt y from fun h => h1 (Int64.lt_iff_toInt_lt.mp h))]
    by_cases h2 : w64 x = w64 y
    · rw [if_pos h2, if_pos (l_eq.mpr h2)]; rfl
    · rw [if_neg h2, if_neg (fun h => h2 (l_eq.mp h))]; rfl
theorem P_lcmp {x y : Int} (hq : pc + 1 = q) (hd : decode md.2.1 pc = .ok (.lcmp, 1)) (k : PW X d Me md Ms q ls ((0, cmpL x y) :: st) I R M Q) : PW X d Me md Ms pc ls ((1, y) :: (1, x) :: st) I R M Q := by
  intro p e s m args below meth c Rm hC H locs cells slots lsm hP hS hl h1 h2
  subst hq
  have kk := k p e s m args below meth c Rm hC H locs cells slots lsm hP hS hl h1 h2
  rw [List.map_cons, show pv X (0, cmpL x y) = .int (lg_cmp (Int64.ofInt x) (Int64.ofInt y)) from congrArg Value.int (cmpL_eq x y).symm] at kk
  exact W.lcmp hC.1 hC.2.1 hd kk
theorem P_dup {v : PV} (hv : ¬ v.1 = 1) (hq : pc + 1 = q) (hd : decode md.2.1 pc = .ok (.dup, 1)) (k : PW X d Me md Ms q ls (v :: v :: st) I R M Q) : PW X d Me md Ms pc ls (v :: st) I R M Q := by
  intro p e s m args below meth c Rm hC H locs cells slots lsm hP hS hl h1 h2
  subst hq
  exact lv_dup hC.1 hC.2.1 hd (by rw [pv_cat, if_neg hv]) (k p e s m args below meth c Rm hC H locs cells slots lsm hP hS hl h1 h2)
theorem P_pop {v : PV} (hv : ¬ v.1 = 1) (hq : pc + 1 = q) (hd : decode md.2.1 pc = .ok (.pop, 1)) (k : PW X d Me md Ms q ls st I R M Q) : PW X d Me md Ms pc ls (v :: st) I R M Q := by
  intro p e s m args below meth c Rm hC H locs cells slots lsm hP hS hl h1 h2
  subst hq
  exact lv_pop hC.1 hC.2.1 hd (by rw [pv_cat, if_neg hv]) (k p e s m args below meth c Rm hC H locs cells slots lsm hP hS hl h1 h2)
theorem P_dup2 {v u : PV} (hv : ¬ v.1 = 1) (hu : ¬ u.1 = 1) (hq : pc + 1 = q) (hd : decode md.2.1 pc = .ok (.dup2, 1)) (k : PW X d Me md Ms q ls (v :: u :: v :: u :: st) I R M Q) : PW X d Me md Ms pc ls (v :: u :: st) I R M Q := by
  intro p e s m args below meth c Rm hC H locs cells slots lsm hP hS hl h1 h2
  subst hq
  exact lv_dup2_11 hC.1 hC.2.1 hd (by rw [pv_cat, if_neg hv]) (by rw [pv_cat, if_neg hu]) (k p e s m args below meth c Rm hC H locs cells slots lsm hP hS hl h1 h2)
theorem P_dup2w {v : PV} (hv : v.1 = 1) (hq : pc + 1 = q) (hd : decode md.2.1 pc = .ok (.dup2, 1)) (k : PW X d Me md Ms q ls (v :: v :: st) I R M Q) : PW X d Me md Ms pc ls (v :: st) I R M Q := by
  intro p e s m args below meth c Rm hC H locs cells slots lsm hP hS hl h1 h2
  subst hq
  exact lv_dup2_2 hC.1 hC.2.1 hd (by rw [pv_cat, if_pos hv]) (k p e s m args below meth c Rm hC H locs cells slots lsm hP hS hl h1 h2)
theorem P_dup_x1 {v u : PV} (hv : ¬ v.1 = 1) (hu : ¬ u.1 = 1) (hq : pc + 1 = q) (hd : decode md.2.1 pc = .ok (.dup_x1, 1)) (k : PW X d Me md Ms q ls (v :: u :: v :: st) I R M Q) : PW X d Me md Ms pc ls (v :: u :: st) I R M Q := by
  intro p e s m args below meth c Rm hC H locs cells slots lsm hP hS hl h1 h2
  subst hq
  exact lv_dup_x1 hC.1 hC.2.1 hd (by rw [pv_cat, if_neg hv]) (by rw [pv_cat, if_neg hu]) (k p e s m args below meth c Rm hC H locs cells slots lsm hP hS hl h1 h2)
theorem P_if_eq {x off : Int} {t : Nat} (ht : (pc : Int) + off = (t : Int)) (hq : pc + 3 = q) (hd : decode md.2.1 pc = .ok (.ifCond .eq off, 3)) (kt : w32 x = 0 → PW X d Me md Ms t ls st I R M Q) (kf : ¬ w32 x = 0 → PW X d Me md Ms q ls st I R M Q) : PW X d Me md Ms pc ls ((0, x) :: st) I R M Q := by
  intro p e s m args below meth c Rm hC H locs cells slots lsm hP hS hl h1 h2
  subst hq
  exact lv_if_eq hC.1 hC.2.1 hd ht (fun h => kt (i_eq0.mp h) p e s m args below meth c Rm hC H locs cells slots lsm hP hS hl h1 h2) (fun h => kf (id (fun g => h (i_eq0.mpr g))) p e s m args below meth c Rm hC H locs cells slots lsm hP hS hl h1 h2)
theorem P_icmp_eq {x y off : Int} {t : Nat} (ht : (pc : Int) + off = (t : Int)) (hq : pc + 3 = q) (hd : decode md.2.1 pc = .ok (.if_icmp .eq off, 3)) (kt : w32 x = w32 y → PW X d Me md Ms t ls st I R M Q) (kf : ¬ w32 x = w32 y → PW X d Me md Ms q ls st I R M Q) : PW X d Me md Ms pc ls ((0, y) :: (0, x) :: st) I R M Q := by
  intro p e s m args below meth c Rm hC H locs cells slots lsm hP hS hl h1 h2
  subst hq
  exact lv_icmp_eq hC.1 hC.2.1 hd ht (fun h => kt (i_eq.mp h) p e s m args below meth c Rm hC H locs cells slots lsm hP hS hl h1 h2) (fun h => kf (id (fun g => h (i_eq.mpr g))) p e s m args below meth c Rm hC H locs cells slots lsm hP hS hl h1 h2)
theorem P_if_ne {x off : Int} {t : Nat} (ht : (pc : Int) + off = (t : Int)) (hq : pc + 3 = q) (hd : decode md.2.1 pc = .ok (.ifCond .ne off, 3)) (kt : ¬ w32 x = 0 → PW X d Me md Ms t ls st I R M Q) (kf : w32 x = 0 → PW X d Me md Ms q ls st I R M Q) : PW X d Me md Ms pc ls ((0, x) :: st) I R M Q := by
  intro p e s m args below meth c Rm hC H locs cells slots lsm hP hS hl h1 h2
  subst hq
  exact lv_if_ne hC.1 hC.2.1 hd ht (fun h => kt ((not_congr i_eq0).mp h) p e s m args below meth c Rm hC H locs cells slots lsm hP hS hl h1 h2) (fun h => kf (i_eq0.mp h) p e s m args below meth c Rm hC H locs cells slots lsm hP hS hl h1 h2)
theorem P_icmp_ne {x y off : Int} {t : Nat} (ht : (pc : Int) + off = (t : Int)) (hq : pc + 3 = q) (hd : decode md.2.1 pc = .ok (.if_icmp .ne off, 3)) (kt : ¬ w32 x = w32 y → PW X d Me md Ms t ls st I R M Q) (kf : w32 x = w32 y → PW X d Me md Ms q ls st I R M Q) : PW X d Me md Ms pc ls ((0, y) :: (0, x) :: st) I R M Q := by
  intro p e s m args below meth c Rm hC H locs cells slots lsm hP hS hl h1 h2
  subst hq
  exact lv_icmp_ne hC.1 hC.2.1 hd ht (fun h => kt ((not_congr i_eq).mp h) p e s m args below meth c Rm hC H locs cells slots lsm hP hS hl h1 h2) (fun h => kf (i_eq.mp h) p e s m args below meth c Rm hC H locs cells slots lsm hP hS hl h1 h2)
theorem P_if_lt {x off : Int} {t : Nat} (ht : (pc : Int) + off = (t : Int)) (hq : pc + 3 = q) (hd : decode md.2.1 pc = .ok (.ifCond .lt off, 3)) (kt : w32 x < 0 → PW X d Me md Ms t ls st I R M Q) (kf : 0 ≤ w32 x → PW X d Me md Ms q ls st I R M Q) : PW X d Me md Ms pc ls ((0, x) :: st) I R M Q := by
  intro p e s m args below meth c Rm hC H locs cells slots lsm hP hS hl h1 h2
  subst hq
  exact lv_if_lt hC.1 hC.2.1 hd ht (fun h => kt (i_lt0.mp h) p e s m args below meth c Rm hC H locs cells slots lsm hP hS hl h1 h2) (fun h => kf (Int.not_lt.mp (fun g => h (i_lt0.mpr g))) p e s m args below meth c Rm hC H locs cells slots lsm hP hS hl h1 h2)
theorem P_icmp_lt {x y off : Int} {t : Nat} (ht : (pc : Int) + off = (t : Int)) (hq : pc + 3 = q) (hd : decode md.2.1 pc = .ok (.if_icmp .lt off, 3)) (kt : w32 x < w32 y → PW X d Me md Ms t ls st I R M Q) (kf : w32 y ≤ w32 x → PW X d Me md Ms q ls st I R M Q) : PW X d Me md Ms pc ls ((0, y) :: (0, x) :: st) I R M Q := by
  intro p e s m args below meth c Rm hC H locs cells slots lsm hP hS hl h1 h2
  subst hq
  exact lv_icmp_lt hC.1 hC.2.1 hd ht (fun h => kt (i_lt.mp h) p e s m args below meth c Rm hC H locs cells slots lsm hP hS hl h1 h2) (fun h => kf (Int.not_lt.mp (fun g => h (i_lt.mpr g))) p e s m args below meth c Rm hC H locs cells slots lsm hP hS hl h1 h2)
theorem P_if_ge {x off : Int} {t : Nat} (ht : (pc : Int) + off = (t : Int)) (hq : pc + 3 = q) (hd : decode md.2.1 pc = .ok (.ifCond .ge off, 3)) (kt : 0 ≤ w32 x → PW X d Me md Ms t ls st I R M Q) (kf : w32 x < 0 → PW X d Me md Ms q ls st I R M Q) : PW X d Me md Ms pc ls ((0, x) :: st) I R M Q := by
  intro p e s m args below meth c Rm hC H locs cells slots lsm hP hS hl h1 h2
  subst hq
  exact lv_if_ge hC.1 hC.2.1 hd ht (fun h => kt (i_0le.mp h) p e s m args below meth c Rm hC H locs cells slots lsm hP hS hl h1 h2) (fun h => kf (Int.not_le.mp (fun g => h (i_0le.mpr g))) p e s m args below meth c Rm hC H locs cells slots lsm hP hS hl h1 h2)
theorem P_icmp_ge {x y off : Int} {t : Nat} (ht : (pc : Int) + off = (t : Int)) (hq : pc + 3 = q) (hd : decode md.2.1 pc = .ok (.if_icmp .ge off, 3)) (kt : w32 y ≤ w32 x → PW X d Me md Ms t ls st I R M Q) (kf : w32 x < w32 y → PW X d Me md Ms q ls st I R M Q) : PW X d Me md Ms pc ls ((0, y) :: (0, x) :: st) I R M Q := by
  intro p e s m args below meth c Rm hC H locs cells slots lsm hP hS hl h1 h2
  subst hq
  exact lv_icmp_ge hC.1 hC.2.1 hd ht (fun h => kt (i_le.mp h) p e s m args below meth c Rm hC H locs cells slots lsm hP hS hl h1 h2) (fun h => kf (Int.not_le.mp (fun g => h (i_le.mpr g))) p e s m args below meth c Rm hC H locs cells slots lsm hP hS hl h1 h2)
theorem P_if_gt {x off : Int} {t : Nat} (ht : (pc : Int) + off = (t : Int)) (hq : pc + 3 = q) (hd : decode md.2.1 pc = .ok (.ifCond .gt off, 3)) (kt : 0 < w32 x → PW X d Me md Ms t ls st I R M Q) (kf : w32 x ≤ 0 → PW X d Me md Ms q ls st I R M Q) : PW X d Me md Ms pc ls ((0, x) :: st) I R M Q := by
  intro p e s m args below meth c Rm hC H locs cells slots lsm hP hS hl h1 h2
  subst hq
  exact lv_if_gt hC.1 hC.2.1 hd ht (fun h => kt (i_0lt.mp h) p e s m args below meth c Rm hC H locs cells slots lsm hP hS hl h1 h2) (fun h => kf (Int.not_lt.mp (fun g => h (i_0lt.mpr g))) p e s m args below meth c Rm hC H locs cells slots lsm hP hS hl h1 h2)
theorem P_icmp_gt {x y off : Int} {t : Nat} (ht : (pc : Int) + off = (t : Int)) (hq : pc + 3 = q) (hd : decode md.2.1 pc = .ok (.if_icmp .gt off, 3)) (kt : w32 y < w32 x → PW X d Me md Ms t ls st I R M Q) (kf : w32 x ≤ w32 y → PW X d Me md Ms q ls st I R M Q) : PW X d Me md Ms pc ls ((0, y) :: (0, x) :: st) I R M Q := by
  intro p e s m args below meth c Rm hC H locs cells slots lsm hP hS hl h1 h2
  subst hq
  exact lv_icmp_gt hC.1 hC.2.1 hd ht (fun h => kt (i_lt.mp h) p e s m args below meth c Rm hC H locs cells slots lsm hP hS hl h1 h2) (fun h => kf (Int.not_lt.mp (fun g => h (i_lt.mpr g))) p e s m args below meth c Rm hC H locs cells slots lsm hP hS hl h1 h2)
theorem P_if_le {x off : Int} {t : Nat} (ht : (pc : Int) + off = (t : Int)) (hq : pc + 3 = q) (hd : decode md.2.1 pc = .ok (.ifCond .le off, 3)) (kt : w32 x ≤ 0 → PW X d Me md Ms t ls st I R M Q) (kf : 0 < w32 x → PW X d Me md Ms q ls st I R M Q) : PW X d Me md Ms pc ls ((0, x) :: st) I R M Q := by
  intro p e s m args below meth c Rm hC H locs cells slots lsm hP hS hl h1 h2
  subst hq
  exact lv_if_le hC.1 hC.2.1 hd ht (fun h => kt (i_le0.mp h) p e s m args below meth c Rm hC H locs cells slots lsm hP hS hl h1 h2) (fun h => kf (Int.not_le.mp (fun g => h (i_le0.mpr g))) p e s m args below meth c Rm hC H locs cells slots lsm hP hS hl h1 h2)
theorem P_icmp_le {x y off : Int} {t : Nat} (ht : (pc : Int) + off = (t : Int)) (hq : pc + 3 = q) (hd : decode md.2.1 pc = .ok (.if_icmp .le off, 3)) (kt : w32 x ≤ w32 y → PW X d Me md Ms t ls st I R M Q) (kf : w32 y < w32 x → PW X d Me md Ms q ls st I R M Q) : PW X d Me md Ms pc ls ((0, y) :: (0, x) :: st) I R M Q := by
  intro p e s m args below meth c Rm hC H locs cells slots lsm hP hS hl h1 h2
  subst hq
  exact lv_icmp_le hC.1 hC.2.1 hd ht (fun h => kt (i_le.mp h) p e s m args below meth c Rm hC H locs cells slots lsm hP hS hl h1 h2) (fun h => kf (Int.not_le.mp (fun g => h (i_le.mpr g))) p e s m args below meth c Rm hC H locs cells slots lsm hP hS hl h1 h2)
theorem P_goto {off : Int} {t : Nat} (ht : (pc : Int) + off = (t : Int)) (hd : decode md.2.1 pc = .ok (.goto off, 3)) (k : PW X d Me md Ms t ls st I R M Q) : PW X d Me md Ms pc ls st I R M Q := by
  intro p e s m args below meth c Rm hC H locs cells slots lsm hP hS hl h1 h2
  exact lv_goto hC.1 hC.2.1 hd ht (k p e s m args below meth c Rm hC H locs cells slots lsm hP hS hl h1 h2)
theorem P_ifnull {x off : Int} {t : Nat} (ht : (pc : Int) + off = (t : Int)) (hq : pc + 3 = q) (hd : decode md.2.1 pc = .ok (.ifnull off, 3)) (kt : x = 0 → PW X d Me md Ms t ls st I R M Q) (kf : x ≠ 0 → PW X d Me md Ms q ls st I R M Q) : PW X d Me md Ms pc ls ((2, x) :: st) I R M Q := by
  intro p e s m args below meth c Rm hC H locs cells slots lsm hP hS hl h1 h2
  subst hq
  by_cases hx : x = 0
  · subst hx
    exact lv_ifnullN hC.1 hC.2.1 hd ht (kt rfl p e s m args below meth c Rm hC H locs cells slots lsm hP hS hl h1 h2)
  · rw [List.map_cons, show pv X (2, x) = .ref (ad X x) by show va_rf (rv X x) = _; unfold rv; rw [if_neg hx]; rfl]
    exact lv_ifnull hC.1 hC.2.1 hd (kf hx p e s m args below meth c Rm hC H locs cells slots lsm hP hS hl h1 h2)
theorem P_lookup {dflt x off : Int} {ps : Array (Int × Int)} {len t : Nat} (hd : decode md.2.1 pc = .ok (.lookupswitch dflt ps, len)) (hp : (ps.toList.zip (ps.toList.drop 1)).all (fun (a, next) => a.1 < next.1) = true) (ho : Op.lookupswitch.offset ps.toList dflt (w32 x) = off) (ht : (pc : Int) + off = (t : Int)) (k : PW X d Me md Ms t ls st I R M Q) : PW X d Me md Ms pc ls ((0, x) :: st) I R M Q := by
  intro p e s m args below meth c Rm hC H locs cells slots lsm hP hS hl h1 h2
  exact lv_lookup hC.1 hC.2.1 hd hp ho ht (k p e s m args below meth c Rm hC H locs cells slots lsm hP hS hl h1 h2)
theorem P_tableOut {dflt lo hi x : Int} {offs : Array Int} {len t : Nat} (hd : decode md.2.1 pc = .ok (.tableswitch dflt lo hi offs, len)) (h : w32 x < lo ∨ hi < w32 x) (ht : (pc : Int) + dflt = (t : Int)) (k : PW X d Me md Ms t ls st I R M Q) : PW X d Me md Ms pc ls ((0, x) :: st) I R M Q := by
  intro p e s m args below meth c Rm hC H locs cells slots lsm hP hS hl h1 h2
  exact lv_tableOut hC.1 hC.2.1 hd h ht (k p e s m args below meth c Rm hC H locs cells slots lsm hP hS hl h1 h2)
theorem P_tableIn {dflt lo hi x off : Int} {offs : Array Int} {len t : Nat} (hd : decode md.2.1 pc = .ok (.tableswitch dflt lo hi offs, len)) (ha : ¬ w32 x < lo) (hb : ¬ hi < w32 x) (ho : offs[(w32 x - lo).toNat]? = some off) (ht : (pc : Int) + off = (t : Int)) (k : PW X d Me md Ms t ls st I R M Q) : PW X d Me md Ms pc ls ((0, x) :: st) I R M Q := by
  intro p e s m args below meth c Rm hC H locs cells slots lsm hP hS hl h1 h2
  exact lv_tableIn hC.1 hC.2.1 hd ha hb ho ht (k p e s m args below meth c Rm hC H locs cells slots lsm hP hS hl h1 h2)
end
