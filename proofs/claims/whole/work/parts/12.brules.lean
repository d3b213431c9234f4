/-! ===== the rules again, for numbers that are in range ===== -/
theorem w_of {x : Int} (h : -2147483648 ≤ x ∧ x < 2147483648) : w32 x = x := w32_id h.1 h.2
theorem w_of64 {x : Int} (h : -9223372036854775808 ≤ x ∧ x < 9223372036854775808) : w64 x = x := w64_id h.1 h.2
theorem tab_cases {lo : Int} {n : Nat} (x : Int) : (x < lo ∨ lo + n - 1 < x) ∨ ∃ k : Nat, k < n ∧ x = lo + k := by
  by_cases h : x < lo ∨ lo + n - 1 < x
  · exact Or.inl h
  · exact Or.inr ⟨(x - lo).toNat, by omega, by omega⟩
section
variable {X : CX} {d : Nat} {Me Ms : PM} {md : MD} {pc q : Nat} {ls st : List PV} {I R : PF} {M : PM} {Q : PV → PF → PF → Prop}
def subL : List PV → List PV → Prop
  | [], _ => True
  | v :: r, [] => v.1 = 9 ∧ subL r []
  | v :: r, u :: s => (v.1 = 9 ∨ v = u) ∧ subL r s
theorem subL_ok : ∀ {l' l : List PV}, subL l' l → ∀ j, (gL j l').1 ≠ 9 → gL j l = gL j l'
  | [], l, _, j, h => by cases j <;> exact absurd rfl h
  | v :: r, [], h, 0, h9 => absurd h.1 h9
  | v :: r, [], h, j + 1, h9 => by
    have := subL_ok h.2 j h9
    cases j <;> exact this
  | v :: r, u :: s, h, 0, h9 => by
    rcases h.1 with e | e
    · exact absurd e h9
    · exact e.symm
  | v :: r, u :: s, h, j + 1, h9 => subL_ok h.2 j h9
theorem PW_sub {ls' : List PV} (h : subL ls' ls) (k : PW X d Me md Ms pc ls' st I R M Q) : PW X d Me md Ms pc ls st I R M Q := by
  intro p e s m args below meth c Rm hC H locs cells slots lsm hP hS hl h1 h2
  refine k p e s m args below meth c Rm hC H locs cells slots lsm hP hS (lv_mono hl fun q hq => ?_) h1 h2
  obtain ⟨j, g1, g2⟩ := lvL_mem.mp hq
  have e := subL_ok h j g1
  exact lvL_mem.mpr ⟨j, by rw [e]; exact g1, by rw [e]; exact g2⟩
theorem B_getfR {ix ci j : Nat} {o t : Int} (hF : FL md.1.cls ix ci j 2) (hk : kd M o = ci) (hr : R o j = t) (hq : pc + 3 = q) (hd : decode md.2.1 pc = .ok (.getfield ix, 3)) (k : PW X d Me md Ms q ls ((2, t) :: st) I R M Q) : PW X d Me md Ms pc ls ((2, o) :: st) I R M Q := P_getf hF hk hq hd (by rw [← hr] at k; exact k)
theorem B_ialoadS {a i : Int} (hk : 39 ≤ a ∧ a ≤ 41) (hn : (sT a).length < 2147483648) (hi : 0 ≤ i ∧ i < ((sT a).length : Int)) (hq : pc + 1 = q) (hd : decode md.2.1 pc = .ok (.iaload, 1)) (k : PW X d Me md Ms q ls ((0, (sT a).getD i.toNat 0) :: st) I R M Q) : PW X d Me md Ms pc ls ((0, i) :: (2, a) :: st) I R M Q := by
  have e : w32 i = i := w_of (by omega)
  exact P_ialoadS hk (by rw [e]; exact hi) hq hd (by rw [e]; exact k)
theorem B_ialoadX {i : Int} (hi : 0 ≤ i ∧ i < (xN X : Int)) (hn : xN X < 2147483648) (hq : pc + 1 = q) (hd : decode md.2.1 pc = .ok (.iaload, 1)) (k : PW X d Me md Ms q ls ((0, (xV X i.toNat).toInt) :: st) I R M Q) : PW X d Me md Ms pc ls ((0, i) :: (2, 42) :: st) I R M Q := by
  have e : w32 i = i := w_of (by omega)
  exact P_ialoadX (by rw [e]; exact hi) hq hd (by rw [e]; exact k)
theorem B_aaloadW {i : Int} (hi : 0 ≤ i ∧ i < 37) (hq : pc + 1 = q) (hd : decode md.2.1 pc = .ok (.aaload, 1)) (k : PW X d Me md Ms q ls ((2, i + 1) :: st) I R M Q) : PW X d Me md Ms pc ls ((0, i) :: (2, 38) :: st) I R M Q := by
  have e : w32 i = i := w_of (by omega)
  exact P_aaloadW (by rw [e]; exact hi) hq hd (by rw [e]; exact k)
theorem B_alen {a N : Int} {c9 : Nat} (hk : kd M a = c9) (hn : (ln M a : Int) = N) (hc : 12 ≤ c9 ∧ c9 ≤ 16) (hN : N < 2147483648) (hq : pc + 1 = q) (hd : decode md.2.1 pc = .ok (.arraylength, 1)) (k : PW X d Me md Ms q ls ((0, N) :: st) I R M Q) : PW X d Me md Ms pc ls ((2, a) :: st) I R M Q := P_alen hk hc (by omega) hq hd (by rw [hn]; exact k)
theorem B_copy {ix : Nat} {a b sp dp n A B : Int} (ha : kd M a = 12) (hb : kd M b = 12) (hA : (ln M a : Int) = A) (hB : (ln M b : Int) = B) (hA9 : A < 2147483648) (hB9 : B < 2147483648) (h : 0 ≤ sp ∧ 0 ≤ dp ∧ 0 ≤ n ∧ sp + n ≤ A ∧ dp + n ≤ B)
    (hl9 : Cond.methodLink md.1.cls ix arraycopyName ∈ tG) (hnat : Cond.native arraycopyName ∈ tG) (hstat : Cond.static arraycopyName ∈ tG) (hini : Cond.initialized "java/lang/System" ∈ tG) (hd1 : 1 ≤ d) (hst : (st.map fun v => if v.1 = 1 then 2 else 1).sum ≤ 8)
    (hq : pc + 3 = q) (hd : decode md.2.1 pc = .ok (.invokestatic ix, 3)) (k : PW X d Me md Ms q ls st (fun x j => if x = b ∧ dp ≤ j ∧ j < dp + n then I a (sp + (j - dp)) else I x j) R M Q) : PW X d Me md Ms pc ls ((0, n) :: (0, dp) :: (2, b) :: (0, sp) :: (2, a) :: st) I R M Q := by
  have e1 : w32 sp = sp := w_of (by omega)
  have e2 : w32 dp = dp := w_of (by omega)
  have e3 : w32 n = n := w_of (by omega)
  exact P_copy ha hb (by omega) (by omega) (by omega) (by omega) (by omega) hl9 hnat hstat hini hd1 hst hq hd (by rw [e1, e2, e3]; exact k)
theorem B_iaload {a i N : Int} (hk : kd M a = 12) (hN : (ln M a : Int) = N) (hN9 : N < 2147483648) (hi : 0 ≤ i ∧ i < N) (hq : pc + 1 = q) (hd : decode md.2.1 pc = .ok (.iaload, 1)) (k : PW X d Me md Ms q ls ((0, I a i) :: st) I R M Q) : PW X d Me md Ms pc ls ((0, i) :: (2, a) :: st) I R M Q := by
  have e : w32 i = i := w_of (by omega)
  exact P_iaload hk (by rw [e, hN]; exact hi) hq hd (by rw [e]; exact k)
theorem B_caload {a i N : Int} (hk : kd M a = 14) (hN : (ln M a : Int) = N) (hN9 : N < 2147483648) (hi : 0 ≤ i ∧ i < N) (hq : pc + 1 = q) (hd : decode md.2.1 pc = .ok (.caload, 1)) (k : PW X d Me md Ms q ls ((0, I a i) :: st) I R M Q) : PW X d Me md Ms pc ls ((0, i) :: (2, a) :: st) I R M Q := by
  have e : w32 i = i := w_of (by omega)
  exact P_caload hk (by rw [e, hN]; exact hi) hq hd (by rw [e]; exact k)
theorem B_laload {a i N : Int} (hk : kd M a = 13) (hN : (ln M a : Int) = N) (hN9 : N < 2147483648) (hi : 0 ≤ i ∧ i < N) (hq : pc + 1 = q) (hd : decode md.2.1 pc = .ok (.laload, 1)) (k : PW X d Me md Ms q ls ((1, I a i) :: st) I R M Q) : PW X d Me md Ms pc ls ((0, i) :: (2, a) :: st) I R M Q := by
  have e : w32 i = i := w_of (by omega)
  exact P_laload hk (by rw [e, hN]; exact hi) hq hd (by rw [e]; exact k)
theorem B_aaload {a i N t : Int} (hk : kd M a = 16) (hN : (ln M a : Int) = N) (hN9 : N < 2147483648) (hi : 0 ≤ i ∧ i < N) (hr : R a i = t) (hq : pc + 1 = q) (hd : decode md.2.1 pc = .ok (.aaload, 1)) (k : PW X d Me md Ms q ls ((2, t) :: st) I R M Q) : PW X d Me md Ms pc ls ((0, i) :: (2, a) :: st) I R M Q := by
  have e : w32 i = i := w_of (by omega)
  exact P_aaload hk (by rw [e, hN]; exact hi) hq hd (by rw [e, hr]; exact k)
theorem B_aaloadI {a i N t : Int} (hk : kd M a = 15) (hN : (ln M a : Int) = N) (hN9 : N < 2147483648) (hi : 0 ≤ i ∧ i < N) (hr : R a i = t) (hq : pc + 1 = q) (hd : decode md.2.1 pc = .ok (.aaload, 1)) (k : PW X d Me md Ms q ls ((2, t) :: st) I R M Q) : PW X d Me md Ms pc ls ((0, i) :: (2, a) :: st) I R M Q := by
  have e : w32 i = i := w_of (by omega)
  exact P_aaloadI hk (by rw [e, hN]; exact hi) hq hd (by rw [e, hr]; exact k)
theorem B_iastore {a i x N : Int} (hk : kd M a = 12) (hN : (ln M a : Int) = N) (hN9 : N < 2147483648) (hi : 0 ≤ i ∧ i < N) (hq : pc + 1 = q) (hd : decode md.2.1 pc = .ok (.iastore, 1)) (k : PW X d Me md Ms q ls st (u2 I a i x) R M Q) : PW X d Me md Ms pc ls ((0, x) :: (0, i) :: (2, a) :: st) I R M Q := by
  have e : w32 i = i := w_of (by omega)
  exact P_iastore hk (by rw [e, hN]; exact hi) hq hd (by rw [e]; exact k)
theorem B_lastore {a i x N : Int} (hk : kd M a = 13) (hN : (ln M a : Int) = N) (hN9 : N < 2147483648) (hi : 0 ≤ i ∧ i < N) (hq : pc + 1 = q) (hd : decode md.2.1 pc = .ok (.lastore, 1)) (k : PW X d Me md Ms q ls st (u2 I a i x) R M Q) : PW X d Me md Ms pc ls ((1, x) :: (0, i) :: (2, a) :: st) I R M Q := by
  have e : w32 i = i := w_of (by omega)
  exact P_lastore hk (by rw [e, hN]; exact hi) hq hd (by rw [e]; exact k)
theorem B_i2l {x : Int} (hx : -2147483648 ≤ x ∧ x < 2147483648) (hq : pc + 1 = q) (hd : decode md.2.1 pc = .ok (.i2l, 1)) (k : PW X d Me md Ms q ls ((1, x) :: st) I R M Q) : PW X d Me md Ms pc ls ((0, x) :: st) I R M Q := P_i2l hq hd (by rw [w_of hx]; exact k)
theorem B_idiv {x y : Int} (hx : -2147483648 ≤ x ∧ x < 2147483648) (hy : -2147483648 ≤ y ∧ y < 2147483648) (hne : y ≠ 0) (hq : pc + 1 = q) (hd : decode md.2.1 pc = .ok (.idiv, 1)) (k : PW X d Me md Ms q ls ((0, x.tdiv y) :: st) I R M Q) : PW X d Me md Ms pc ls ((0, y) :: (0, x) :: st) I R M Q := P_idiv (by rw [w_of hy]; exact hne) hq hd (by rw [w_of hx, w_of hy]; exact k)
theorem B_irem {x y : Int} (hx : -2147483648 ≤ x ∧ x < 2147483648) (hy : -2147483648 ≤ y ∧ y < 2147483648) (hne : y ≠ 0) (hq : pc + 1 = q) (hd : decode md.2.1 pc = .ok (.irem, 1)) (k : PW X d Me md Ms q ls ((0, x.tmod y) :: st) I R M Q) : PW X d Me md Ms pc ls ((0, y) :: (0, x) :: st) I R M Q := P_irem (by rw [w_of hy]; exact hne) hq hd (by rw [w_of hx, w_of hy]; exact k)
theorem B_ldiv {x y : Int} (hx : -9223372036854775808 ≤ x ∧ x < 9223372036854775808) (hy : -9223372036854775808 ≤ y ∧ y < 9223372036854775808) (hne : y ≠ 0) (hq : pc + 1 = q) (hd : decode md.2.1 pc = .ok (.ldiv, 1)) (k : PW X d Me md Ms q ls ((1, x.tdiv y) :: st) I R M Q) : PW X d Me md Ms pc ls ((1, y) :: (1, x) :: st) I R M Q := P_ldiv (by rw [w_of64 hy]; exact hne) hq hd (by rw [w_of64 hx, w_of64 hy]; exact k)
theorem B_lrem {x y : Int} (hx : -9223372036854775808 ≤ x ∧ x < 9223372036854775808) (hy : -9223372036854775808 ≤ y ∧ y < 9223372036854775808) (hne : y ≠ 0) (hq : pc + 1 = q) (hd : decode md.2.1 pc = .ok (.lrem, 1)) (k : PW X d Me md Ms q ls ((1, x.tmod y) :: st) I R M Q) : PW X d Me md Ms pc ls ((1, y) :: (1, x) :: st) I R M Q := P_lrem (by rw [w_of64 hy]; exact hne) hq hd (by rw [w_of64 hx, w_of64 hy]; exact k)
theorem B_if_eq {x off : Int} {t : Nat} (hx : -2147483648 ≤ x ∧ x < 2147483648) (ht : (pc : Int) + off = (t : Int)) (hq : pc + 3 = q) (hd : decode md.2.1 pc = .ok (.ifCond .eq off, 3)) (kt : x = 0 → PW X d Me md Ms t ls st I R M Q) (kf : x ≠ 0 → PW X d Me md Ms q ls st I R M Q) : PW X d Me md Ms pc ls ((0, x) :: st) I R M Q := P_if_eq ht hq hd (by rw [w_of hx]; exact kt) (by rw [w_of hx]; exact kf)
theorem B_icmp_eq {x y off : Int} {t : Nat} (hx : -2147483648 ≤ x ∧ x < 2147483648) (hy : -2147483648 ≤ y ∧ y < 2147483648) (ht : (pc : Int) + off = (t : Int)) (hq : pc + 3 = q) (hd : decode md.2.1 pc = .ok (.if_icmp .eq off, 3)) (kt : x = y → PW X d Me md Ms t ls st I R M Q) (kf : x ≠ y → PW X d Me md Ms q ls st I R M Q) : PW X d Me md Ms pc ls ((0, y) :: (0, x) :: st) I R M Q := P_icmp_eq ht hq hd (by rw [w_of hx, w_of hy]; exact kt) (by rw [w_of hx, w_of hy]; exact kf)
theorem B_lif_eq {x y off : Int} {q1 t : Nat} (hx : -9223372036854775808 ≤ x ∧ x < 9223372036854775808) (hy : -9223372036854775808 ≤ y ∧ y < 9223372036854775808) (hq1 : pc + 1 = q1) (hd1 : decode md.2.1 pc = .ok (.lcmp, 1)) (ht : (q1 : Int) + off = (t : Int)) (hq : q1 + 3 = q) (hd : decode md.2.1 q1 = .ok (.ifCond .eq off, 3)) (kt : x = y → PW X d Me md Ms t ls st I R M Q) (kf : x ≠ y → PW X d Me md Ms q ls st I R M Q) : PW X d Me md Ms pc ls ((1, y) :: (1, x) :: st) I R M Q := by
  have e : cmpL x y = if y < x then 1 else if x = y then 0 else -1 := by unfold cmpL; rw [w_of64 hx, w_of64 hy]
  have er : -2147483648 ≤ cmpL x y ∧ cmpL x y < 2147483648 := by rw [e]; split <;> first | omega | (split <;> omega)
  refine P_lcmp hq1 hd1 (B_if_eq er ht hq hd (fun h => kt ?_) (fun h => kf ?_)) <;> (rw [e] at h; split at h <;> first | omega | (split at h <;> omega))
theorem B_if_ne {x off : Int} {t : Nat} (hx : -2147483648 ≤ x ∧ x < 2147483648) (ht : (pc : Int) + off = (t : Int)) (hq : pc + 3 = q) (hd : decode md.2.1 pc = .ok (.ifCond .ne off, 3)) (kt : x ≠ 0 → PW X d Me md Ms t ls st I R M Q) (kf : x = 0 → PW X d Me md Ms q ls st I R M Q) : PW X d Me md Ms pc ls ((0, x) :: st) I R M Q := P_if_ne ht hq hd (by rw [w_of hx]; exact kt) (by rw [w_of hx]; exact kf)
theorem B_icmp_ne {x y off : Int} {t : Nat} (hx : -2147483648 ≤ x ∧ x < 2147483648) (hy : -2147483648 ≤ y ∧ y < 2147483648) (ht : (pc : Int) + off = (t : Int)) (hq : pc + 3 = q) (hd : decode md.2.1 pc = .ok (.if_icmp .ne off, 3)) (kt : x ≠ y → PW X d Me md Ms t ls st I R M Q) (kf : x = y → PW X d Me md Ms q ls st I R M Q) : PW X d Me md Ms pc ls ((0, y) :: (0, x) :: st) I R M Q := P_icmp_ne ht hq hd (by rw [w_of hx, w_of hy]; exact kt) (by rw [w_of hx, w_of hy]; exact kf)
theorem B_lif_ne {x y off : Int} {q1 t : Nat} (hx : -9223372036854775808 ≤ x ∧ x < 9223372036854775808) (hy : -9223372036854775808 ≤ y ∧ y < 9223372036854775808) (hq1 : pc + 1 = q1) (hd1 : decode md.2.1 pc = .ok (.lcmp, 1)) (ht : (q1 : Int) + off = (t : Int)) (hq : q1 + 3 = q) (hd : decode md.2.1 q1 = .ok (.ifCond .ne off, 3)) (kt : x ≠ y → PW X d Me md Ms t ls st I R M Q) (kf : x = y → PW X d Me md Ms q ls st I R M Q) : PW X d Me md Ms pc ls ((1, y) :: (1, x) :: st) I R M Q := by
  have e : cmpL x y = if y < x then 1 else if x = y then 0 else -1 := by unfold cmpL; rw [w_of64 hx, w_of64 hy]
  have er : -2147483648 ≤ cmpL x y ∧ cmpL x y < 2147483648 := by rw [e]; split <;> first | omega | (split <;> omega)
  refine P_lcmp hq1 hd1 (B_if_ne er ht hq hd (fun h => kt ?_) (fun h => kf ?_)) <;> (rw [e] at h; split at h <;> first | omega | (split at h <;> omega))
theorem B_if_lt {x off : Int} {t : Nat} (hx : -2147483648 ≤ x ∧ x < 2147483648) (ht : (pc : Int) + off = (t : Int)) (hq : pc + 3 = q) (hd : decode md.2.1 pc = .ok (.ifCond .lt off, 3)) (kt : x < 0 → PW X d Me md Ms t ls st I R M Q) (kf : 0 ≤ x → PW X d Me md Ms q ls st I R M Q) : PW X d Me md Ms pc ls ((0, x) :: st) I R M Q := P_if_lt ht hq hd (by rw [w_of hx]; exact kt) (by rw [w_of hx]; exact kf)
theorem B_icmp_lt {x y off : Int} {t : Nat} (hx : -2147483648 ≤ x ∧ x < 2147483648) (hy : -2147483648 ≤ y ∧ y < 2147483648) (ht : (pc : Int) + off = (t : Int)) (hq : pc + 3 = q) (hd : decode md.2.1 pc = .ok (.if_icmp .lt off, 3)) (kt : x < y → PW X d Me md Ms t ls st I R M Q) (kf : y ≤ x → PW X d Me md Ms q ls st I R M Q) : PW X d Me md Ms pc ls ((0, y) :: (0, x) :: st) I R M Q := P_icmp_lt ht hq hd (by rw [w_of hx, w_of hy]; exact kt) (by rw [w_of hx, w_of hy]; exact kf)
theorem B_lif_lt {x y off : Int} {q1 t : Nat} (hx : -9223372036854775808 ≤ x ∧ x < 9223372036854775808) (hy : -9223372036854775808 ≤ y ∧ y < 9223372036854775808) (hq1 : pc + 1 = q1) (hd1 : decode md.2.1 pc = .ok (.lcmp, 1)) (ht : (q1 : Int) + off = (t : Int)) (hq : q1 + 3 = q) (hd : decode md.2.1 q1 = .ok (.ifCond .lt off, 3)) (kt : x < y → PW X d Me md Ms t ls st I R M Q) (kf : y ≤ x → PW X d Me md Ms q ls st I R M Q) : PW X d Me md Ms pc ls ((1, y) :: (1, x) :: st) I R M Q := by
  have e : cmpL x y = if y < x then 1 else if x = y then 0 else -1 := by unfold cmpL; rw [w_of64 hx, w_of64 hy]
  have er : -2147483648 ≤ cmpL x y ∧ cmpL x y < 2147483648 := by rw [e]; split <;> first | omega | (split <;> omega)
  refine P_lcmp hq1 hd1 (B_if_lt er ht hq hd (fun h => kt ?_) (fun h => kf ?_)) <;> (rw [e] at h; split at h <;> first | omega | (split at h <;> omega))
theorem B_if_ge {x off : Int} {t : Nat} (hx : -2147483648 ≤ x ∧ x < 2147483648) (ht : (pc : Int) + off = (t : Int)) (hq : pc + 3 = q) (hd : decode md.2.1 pc = .ok (.ifCond .ge off, 3)) (kt : 0 ≤ x → PW X d Me md Ms t ls st I R M Q) (kf : x < 0 → PW X d Me md Ms q ls st I R M Q) : PW X d Me md Ms pc ls ((0, x) :: st) I R M Q := P_if_ge ht hq hd (by rw [w_of hx]; exact kt) (by rw [w_of hx]; exact kf)
theorem B_icmp_ge {x y off : Int} {t : Nat} (hx : -2147483648 ≤ x ∧ x < 2147483648) (hy : -2147483648 ≤ y ∧ y < 2147483648) (ht : (pc : Int) + off = (t : Int)) (hq : pc + 3 = q) (hd : decode md.2.1 pc = .ok (.if_icmp .ge off, 3)) (kt : y ≤ x → PW X d Me md Ms t ls st I R M Q) (kf : x < y → PW X d Me md Ms q ls st I R M Q) : PW X d Me md Ms pc ls ((0, y) :: (0, x) :: st) I R M Q := P_icmp_ge ht hq hd (by rw [w_of hx, w_of hy]; exact kt) (by rw [w_of hx, w_of hy]; exact kf)
theorem B_lif_ge {x y off : Int} {q1 t : Nat} (hx : -9223372036854775808 ≤ x ∧ x < 9223372036854775808) (hy : -9223372036854775808 ≤ y ∧ y < 9223372036854775808) (hq1 : pc + 1 = q1) (hd1 : decode md.2.1 pc = .ok (.lcmp, 1)) (ht : (q1 : Int) + off = (t : Int)) (hq : q1 + 3 = q) (hd : decode md.2.1 q1 = .ok (.ifCond .ge off, 3)) (kt : y ≤ x → PW X d Me md Ms t ls st I R M Q) (kf : x < y → PW X d Me md Ms q ls st I R M Q) : PW X d Me md Ms pc ls ((1, y) :: (1, x) :: st) I R M Q := by
  have e : cmpL x y = if y < x then 1 else if x = y then 0 else -1 := by unfold cmpL; rw [w_of64 hx, w_of64 hy]
  have er : -2147483648 ≤ cmpL x y ∧ cmpL x y < 2147483648 := by rw [e]; split <;> first | omega | (split <;> omega)
  refine P_lcmp hq1 hd1 (B_if_ge er ht hq hd (fun h => kt ?_) (fun h => kf ?_)) <;> (rw [e] at h; split at h <;> first | omega | (split at h <;> omega))
theorem B_if_gt {x off : Int} {t : Nat} (hx : -2147483648 ≤ x ∧ x < 2147483648) (ht : (pc : Int) + off = (t : Int)) (hq : pc + 3 = q) (hd : decode md.2.1 pc = .ok (.ifCond .gt off, 3)) (kt : 0 < x → PW X d Me md Ms t ls st I R M Q) (kf : x ≤ 0 → PW X d Me md Ms q ls st I R M Q) : PW X d Me md Ms pc ls ((0, x) :: st) I R M Q := P_if_gt ht hq hd (by rw [w_of hx]; exact kt) (by rw [w_of hx]; exact kf)
theorem B_icmp_gt {x y off : Int} {t : Nat} (hx : -2147483648 ≤ x ∧ x < 2147483648) (hy : -2147483648 ≤ y ∧ y < 2147483648) (ht : (pc : Int) + off = (t : Int)) (hq : pc + 3 = q) (hd : decode md.2.1 pc = .ok (.if_icmp .gt off, 3)) (kt : y < x → PW X d Me md Ms t ls st I R M Q) (kf : x ≤ y → PW X d Me md Ms q ls st I R M Q) : PW X d Me md Ms pc ls ((0, y) :: (0, x) :: st) I R M Q := P_icmp_gt ht hq hd (by rw [w_of hx, w_of hy]; exact kt) (by rw [w_of hx, w_of hy]; exact kf)
theorem B_lif_gt {x y off : Int} {q1 t : Nat} (hx : -9223372036854775808 ≤ x ∧ x < 9223372036854775808) (hy : -9223372036854775808 ≤ y ∧ y < 9223372036854775808) (hq1 : pc + 1 = q1) (hd1 : decode md.2.1 pc = .ok (.lcmp, 1)) (ht : (q1 : Int) + off = (t : Int)) (hq : q1 + 3 = q) (hd : decode md.2.1 q1 = .ok (.ifCond .gt off, 3)) (kt : y < x → PW X d Me md Ms t ls st I R M Q) (kf : x ≤ y → PW X d Me md Ms q ls st I R M Q) : PW X d Me md Ms pc ls ((1, y) :: (1, x) :: st) I R M Q := by
  have e : cmpL x y = if y < x then 1 else if x = y then 0 else -1 := by unfold cmpL; rw [w_of64 hx, w_of64 hy]
  have er : -2147483648 ≤ cmpL x y ∧ cmpL x y < 2147483648 := by rw [e]; split <;> first | omega | (split <;> omega)
  refine P_lcmp hq1 hd1 (B_if_gt er ht hq hd (fun h => kt ?_) (fun h => kf ?_)) <;> (rw [e] at h; split at h <;> first | omega | (split at h <;> omega))
theorem B_if_le {x off : Int} {t : Nat} (hx : -2147483648 ≤ x ∧ x < 2147483648) (ht : (pc : Int) + off = (t : Int)) (hq : pc + 3 = q) (hd : decode md.2.1 pc = .ok (.ifCond .le off, 3)) (kt : x ≤ 0 → PW X d Me md Ms t ls st I R M Q) (kf : 0 < x → PW X d Me md Ms q ls st I R M Q) : PW X d Me md Ms pc ls ((0, x) :: st) I R M Q := P_if_le ht hq hd (by rw [w_of hx]; exact kt) (by rw [w_of hx]; exact kf)
theorem B_icmp_le {x y off : Int} {t : Nat} (hx : -2147483648 ≤ x ∧ x < 2147483648) (hy : -2147483648 ≤ y ∧ y < 2147483648) (ht : (pc : Int) + off = (t : Int)) (hq : pc + 3 = q) (hd : decode md.2.1 pc = .ok (.if_icmp .le off, 3)) (kt : x ≤ y → PW X d Me md Ms t ls st I R M Q) (kf : y < x → PW X d Me md Ms q ls st I R M Q) : PW X d Me md Ms pc ls ((0, y) :: (0, x) :: st) I R M Q := P_icmp_le ht hq hd (by rw [w_of hx, w_of hy]; exact kt) (by rw [w_of hx, w_of hy]; exact kf)
theorem B_lif_le {x y off : Int} {q1 t : Nat} (hx : -9223372036854775808 ≤ x ∧ x < 9223372036854775808) (hy : -9223372036854775808 ≤ y ∧ y < 9223372036854775808) (hq1 : pc + 1 = q1) (hd1 : decode md.2.1 pc = .ok (.lcmp, 1)) (ht : (q1 : Int) + off = (t : Int)) (hq : q1 + 3 = q) (hd : decode md.2.1 q1 = .ok (.ifCond .le off, 3)) (kt : x ≤ y → PW X d Me md Ms t ls st I R M Q) (kf : y < x → PW X d Me md Ms q ls st I R M Q) : PW X d Me md Ms pc ls ((1, y) :: (1, x) :: st) I R M Q := by
  have e : cmpL x y = if y < x then 1 else if x = y then 0 else -1 := by unfold cmpL; rw [w_of64 hx, w_of64 hy]
  have er : -2147483648 ≤ cmpL x y ∧ cmpL x y < 2147483648 := by rw [e]; split <;> first | omega | (split <;> omega)
  refine P_lcmp hq1 hd1 (B_if_le er ht hq hd (fun h => kt ?_) (fun h => kf ?_)) <;> (rw [e] at h; split at h <;> first | omega | (split at h <;> omega))
end
