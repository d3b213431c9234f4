/-! ===== the cells made so far: the first n of MF; memory as writes ===== -/
def Lt (W : List (Int × Int × Int)) (c : Int) : Prop := ∀ w, w ∈ W → w.1 < c
theorem Lt.nil {c : Int} : Lt [] c := fun _ h => absurd h List.not_mem_nil
theorem Lt.up {W : List (Int × Int × Int)} {c c' : Int} (h : Lt W c) (hc : c ≤ c') : Lt W c' := fun w hw => by have := h w hw; omega
theorem Lt.one {W : List (Int × Int × Int)} {o j v c : Int} (h : Lt W c) (ho : o < c) : Lt ((o, j, v) :: W) c := fun w hw => by
  rcases List.mem_cons.mp hw with e | hw
  · rw [e]; exact ho
  · exact h w hw
theorem Lt_rws {W : List (Int × Int × Int)} {o c : Int} {n : Nat} (h : Lt W c) (ho : o < c) : Lt (rws o n ++ W) c := fun w hw => by
  rcases List.mem_append.mp hw with e | hw
  · unfold rws at e
    obtain ⟨i, -, e⟩ := List.mem_map.mp e
    rw [← e]; exact ho
  · exact h w hw
theorem Lt.out {W : List (Int × Int × Int)} {c m : Int} (h : Lt W c) : ∀ w, w ∈ W → ¬ (c ≤ w.1 ∧ w.1 ≤ m) := fun w hw e => by have := h w hw; omega
theorem tk_lt {n : Nat} {q : Nat × Nat} (h : MF[n]? = some q) : n < MF.length := (List.getElem?_eq_some_iff.mp h).1
theorem tk_len {n : Nat} (h : n ≤ MF.length) : (MF.take n).length = n := by rw [List.length_take]; exact Nat.min_eq_left h
theorem tk_push {n : Nat} {q : Nat × Nat} (h : MF[n]? = some q) : MF.take n ++ [q] = MF.take (n + 1) := by
  rw [List.take_succ, h]; rfl
theorem sz_take (l : PM) (n : Nat) : szM (l.take n) ≤ szM l := by
  have e : szM (l.take n) + szM (l.drop n) = szM l := by rw [← szM_app, List.take_append_drop]
  omega
theorem tk_szle {n m : Nat} (h : n ≤ m) : szM (MF.take n) ≤ szM (MF.take m) := by
  have e : MF.take n = (MF.take m).take n := by rw [List.take_take, Nat.min_eq_left h]
  rw [e]; exact sz_take _ _
theorem tk_lnle {n m : Nat} (h : n ≤ m) : (MF.take n).length ≤ (MF.take m).length := by
  rw [List.length_take, List.length_take]; omega
theorem tk_sz {n m : Nat} {q : Nat × Nat} (h : MF[n]? = some q) (hm : n < m) : (MF.take n).length + 1 ≤ (MF.take m).length ∧ szM (MF.take n) + q.2 ≤ szM (MF.take m) := by
  have e := tk_szle (n := n + 1) (m := m) hm
  have l := tk_lnle (n := n + 1) (m := m) hm
  rw [← tk_push h] at e l
  rw [szM_app] at e
  rw [List.length_append, List.length_singleton] at l
  have : szM [q] = q.2 := by simp [szM]
  exact ⟨l, by omega⟩
theorem tk_kd {n : Nat} {o : Int} (h : o < 64 + n) : kd (MF.take n) o = kd MF o := by
  unfold kd
  by_cases c : o < 64
  · rw [if_pos c, if_pos c]
  · rw [if_neg c, if_neg c, List.getElem?_take_of_lt (by omega)]
theorem tk_ln {n : Nat} {o : Int} (h : o < 64 + n) : ln (MF.take n) o = ln MF o := by
  unfold ln
  by_cases c : o < 64
  · rw [if_pos c, if_pos c]
  · rw [if_neg c, if_neg c, List.getElem?_take_of_lt (by omega)]
theorem tk_all : MF.take 319 = MF := by decide +kernel
theorem wr_o {W : List (Int × Int × Int)} {o j v a b : Int} (h : a ≠ o) : wr ((o, j, v) :: W) a b = wr W a b := u2_o h
theorem wr_j {W : List (Int × Int × Int)} {o j v a b : Int} (h : b ≠ j) : wr ((o, j, v) :: W) a b = wr W a b := u2_j h
theorem wr_r {W : List (Int × Int × Int)} {o a b : Int} {n : Nat} (h : a ≠ o) : wr (rws o n ++ W) a b = wr W a b := by
  rw [wr_rws, if_neg (fun c => h c.1)]
theorem szM_rep (N K : Nat) : szM ((15, N) :: List.replicate N (12, K)) = N + N * K := by
  unfold szM
  rw [List.map_cons, List.sum_cons, List.map_replicate]
  simp
theorem wr_at {W : List (Int × Int × Int)} {o j v : Int} : wr ((o, j, v) :: W) o j = v := u2_at
section
variable {X : CX} {d : Nat} {Ms : PM} {md : MD} {pc q n m : Nat} {ls st : List PV} {WI WR : List (Int × Int × Int)} {I R : PF} {M Me : PM} {c : Int} {Q : PV → PF → PF → Prop}
theorem T_new {ix ci N : Nat} {C : String} {T : u_T} (hO : ClOK ci C T N) (hok : ∀ j, j < N → okT (tyOf ci j) = true) (hw : Cond.classLink md.1.cls ix C ∈ tG) (hi : Cond.instantiable C N ∈ tG) (hini : Cond.initialized C ∈ tG) (hn : MF[n]? = some (ci, N)) (hm : n < m) (hc : 64 + (n : Int) = c) (hI : Lt WI c) (hR : Lt WR c)
    (hq : pc + 3 = q) (hd : decode md.2.1 pc = .ok (.new ix, 3)) (k : PW X d (MF.take m) md Ms q ls ((2, c) :: st) (wr WI) (wr WR) (MF.take (n + 1)) Q) : PW X d (MF.take m) md Ms pc ls st (wr WI) (wr WR) (MF.take n) Q := by
  have hl : (MF.take n).length = n := tk_len (Nat.le_of_lt (tk_lt hn))
  refine P_new hO hok hw hi hini (tk_sz hn hm) hq hd ?_
  rw [hl, hc, tk_push hn, wr_z1 (fun w hw e => by have := hI w hw; omega), wr_z1 (fun w hw e => by have := hR w hw; omega)]
  exact k
theorem T_newi {N : Nat} {x : Int} (hx : ((N : Nat) : Int) = x) (hN : N ≤ 100000) (hn : MF[n]? = some (12, N)) (hm : n < m) (hc : 64 + (n : Int) = c) (hI : Lt WI c) (hR : Lt WR c)
    (hq : pc + 2 = q) (hd : decode md.2.1 pc = .ok (.newarray .int, 2)) (k : PW X d (MF.take m) md Ms q ls ((2, c) :: st) (wr WI) (wr WR) (MF.take (n + 1)) Q) : PW X d (MF.take m) md Ms pc ls ((0, x) :: st) (wr WI) (wr WR) (MF.take n) Q := by
  have hl : (MF.take n).length = n := tk_len (Nat.le_of_lt (tk_lt hn))
  have e1 : w32 x = x := w32_id (by omega) (by omega)
  have e2 : (w32 x).toNat = N := by omega
  refine P_newarr (at0 := .int) (ty := .int) (t0 := 0) (kind := 12) (q := q) rfl (tGp1 71 rfl rfl) rfl (fun _ h => by cases h) nc12 ⟨by omega, by omega⟩ (by decide) (by rw [e2]; exact tk_sz hn hm) hq hd ?_
  rw [e2, hl, hc, tk_push hn, wr_z1 (fun w hw e => by have := hI w hw; omega), wr_z1 (fun w hw e => by have := hR w hw; omega)]
  exact k
theorem T_newl {N : Nat} {x : Int} (hx : ((N : Nat) : Int) = x) (hN : N ≤ 100000) (hn : MF[n]? = some (13, N)) (hm : n < m) (hc : 64 + (n : Int) = c) (hI : Lt WI c) (hR : Lt WR c)
    (hq : pc + 2 = q) (hd : decode md.2.1 pc = .ok (.newarray .long, 2)) (k : PW X d (MF.take m) md Ms q ls ((2, c) :: st) (wr WI) (wr WR) (MF.take (n + 1)) Q) : PW X d (MF.take m) md Ms pc ls ((0, x) :: st) (wr WI) (wr WR) (MF.take n) Q := by
  have hl : (MF.take n).length = n := tk_len (Nat.le_of_lt (tk_lt hn))
  have e1 : w32 x = x := w32_id (by omega) (by omega)
  have e2 : (w32 x).toNat = N := by omega
  refine P_newarr (at0 := .long) (ty := .long) (t0 := 1) (kind := 13) (q := q) rfl (tGp7 229 rfl rfl) rfl (fun _ h => by cases h) nc13 ⟨by omega, by omega⟩ (by decide) (by rw [e2]; exact tk_sz hn hm) hq hd ?_
  rw [e2, hl, hc, tk_push hn, wr_z1 (fun w hw e => by have := hI w hw; omega), wr_z1 (fun w hw e => by have := hR w hw; omega)]
  exact k
theorem T_newc {N : Nat} {x : Int} (hx : ((N : Nat) : Int) = x) (hN : N ≤ 100000) (hn : MF[n]? = some (14, N)) (hm : n < m) (hc : 64 + (n : Int) = c) (hI : Lt WI c) (hR : Lt WR c)
    (hq : pc + 2 = q) (hd : decode md.2.1 pc = .ok (.newarray .char, 2)) (k : PW X d (MF.take m) md Ms q ls ((2, c) :: st) (wr WI) (wr WR) (MF.take (n + 1)) Q) : PW X d (MF.take m) md Ms pc ls ((0, x) :: st) (wr WI) (wr WR) (MF.take n) Q := by
  have hl : (MF.take n).length = n := tk_len (Nat.le_of_lt (tk_lt hn))
  have e1 : w32 x = x := w32_id (by omega) (by omega)
  have e2 : (w32 x).toNat = N := by omega
  refine P_newarr (at0 := .char) (ty := .char) (t0 := 2) (kind := 14) (q := q) rfl (tGp7 228 rfl rfl) rfl (fun _ h => by cases h) nc14 ⟨by omega, by omega⟩ (by decide) (by rw [e2]; exact tk_sz hn hm) hq hd ?_
  rw [e2, hl, hc, tk_push hn, wr_z1 (fun w hw e => by have := hI w hw; omega), wr_z1 (fun w hw e => by have := hR w hw; omega)]
  exact k
theorem T_anew {ix N : Nat} {x : Int} (hx : ((N : Nat) : Int) = x) (hN : N ≤ 100000) (hw : Cond.classLink md.1.cls ix "NoonHat$State" ∈ tG) (hn : MF[n]? = some (16, N)) (hm : n < m) (hc : 64 + (n : Int) = c) (hI : Lt WI c) (hR : Lt WR c)
    (hq : pc + 3 = q) (hd : decode md.2.1 pc = .ok (.anewarray ix, 3)) (k : PW X d (MF.take m) md Ms q ls ((2, c) :: st) (wr WI) (wr WR) (MF.take (n + 1)) Q) : PW X d (MF.take m) md Ms pc ls ((0, x) :: st) (wr WI) (wr WR) (MF.take n) Q := by
  have hl : (MF.take n).length = n := tk_len (Nat.le_of_lt (tk_lt hn))
  have e1 : w32 x = x := w32_id (by omega) (by omega)
  have e2 : (w32 x).toNat = N := by omega
  refine P_anew hw ⟨by omega, by omega⟩ (by rw [e2]; exact tk_sz hn hm) hq hd ?_
  rw [e2, hl, hc, tk_push hn, wr_z1 (fun w hw e => by have := hI w hw; omega), wr_z1 (fun w hw e => by have := hR w hw; omega)]
  exact k
theorem T_putI {ix ci j : Nat} {b : Bool} {o x : Int} (hF : FW md.1.cls ix ci j .int b) (hb : b = true → md.1.name = "<init>") (hk : kd M o = ci) (hq : pc + 3 = q) (hd : decode md.2.1 pc = .ok (.putfield ix, 3)) (k : PW X d Me md Ms q ls st (wr ((o, (j : Int), x) :: WI)) R M Q) : PW X d Me md Ms pc ls ((0, x) :: (2, o) :: st) (wr WI) R M Q := P_putI hF hb hk hq hd k
theorem T_putZ {ix ci j : Nat} {b : Bool} {o x : Int} (hF : FW md.1.cls ix ci j .boolean b) (hb : b = true → md.1.name = "<init>") (hx : x = 0 ∨ x = 1) (hk : kd M o = ci) (hq : pc + 3 = q) (hd : decode md.2.1 pc = .ok (.putfield ix, 3)) (k : PW X d Me md Ms q ls st (wr ((o, (j : Int), x) :: WI)) R M Q) : PW X d Me md Ms pc ls ((0, x) :: (2, o) :: st) (wr WI) R M Q := P_putZ hF hb hx hk hq hd k
theorem T_putL {ix ci j : Nat} {b : Bool} {o x : Int} (hF : FW md.1.cls ix ci j .long b) (hb : b = true → md.1.name = "<init>") (hk : kd M o = ci) (hq : pc + 3 = q) (hd : decode md.2.1 pc = .ok (.putfield ix, 3)) (k : PW X d Me md Ms q ls st (wr ((o, (j : Int), x) :: WI)) R M Q) : PW X d Me md Ms pc ls ((1, x) :: (2, o) :: st) (wr WI) R M Q := P_putL hF hb hk hq hd k
theorem T_putR {ix ci j : Nat} {ty : FieldType} {b : Bool} {o x : Int} (hF : FW md.1.cls ix ci j ty b) (ht : isR ty = true) (hb : b = true → md.1.name = "<init>") (hk : kd M o = ci) (hq : pc + 3 = q) (hd : decode md.2.1 pc = .ok (.putfield ix, 3)) (k : PW X d Me md Ms q ls st I (wr ((o, (j : Int), x) :: WR)) M Q) : PW X d Me md Ms pc ls ((2, x) :: (2, o) :: st) I (wr WR) M Q := P_putR hF ht hb hk hq hd k
theorem T_cast {a i x : Int} (hx : vp_nar .char (Int32.ofInt x) = Int32.ofInt x) (hk : kd M a = 14) (hw : w32 i = i) (hi : 0 ≤ i ∧ i < ln M a) (hq : pc + 1 = q) (hd : decode md.2.1 pc = .ok (.castore, 1)) (k : PW X d Me md Ms q ls st (wr ((a, i, x) :: WI)) R M Q) : PW X d Me md Ms pc ls ((0, x) :: (0, i) :: (2, a) :: st) (wr WI) R M Q := P_castore hx hk (by rw [hw]; exact hi) hq hd (by rw [hw]; exact k)
theorem T_iast {a i x : Int} (hk : kd M a = 12) (hw : w32 i = i) (hi : 0 ≤ i ∧ i < ln M a) (hq : pc + 1 = q) (hd : decode md.2.1 pc = .ok (.iastore, 1)) (k : PW X d Me md Ms q ls st (wr ((a, i, x) :: WI)) R M Q) : PW X d Me md Ms pc ls ((0, x) :: (0, i) :: (2, a) :: st) (wr WI) R M Q := P_iastore hk (by rw [hw]; exact hi) hq hd (by rw [hw]; exact k)
theorem T_ctor {n' ix na ci d' : Nat} {md' : MD} {As : List PV} {o : Int} {WI' WR' : List (Int × Int × Int)} (hO : COI md' na) (hna : As.length = na) (hk : kd (MF.take n) o = ci) (hci : ci < 12) (hl9 : Cond.methodLink md.1.cls ix md'.1 ∈ tG ∨ ∃ host, Cond.methodLinkNest md.1.cls ix md'.1 host ∈ tN) (hdd : d' + 1 ≤ d) (hM : n ≤ n') (hM2 : n' ≤ m) (hst : (st.map fun v => if v.1 = 1 then 2 else 1).sum ≤ 8)
    (hc : Callee X d' md' (MF.take n) (MF.take n') ((2, o) :: As) (wr WI) (wr WR) (fun _ I' R' => I' = wr WI' ∧ R' = wr WR')) (hq : pc + 3 = q) (hd : decode md.2.1 pc = .ok (.invokespecial ix, 3)) (k : PW X d (MF.take m) md Ms q ls st (wr WI') (wr WR') (MF.take n') Q) :
    PW X d (MF.take m) md Ms pc ls (As.reverse ++ (2, o) :: st) (wr WI) (wr WR) (MF.take n) Q := by
  refine P_invI hO hna hk hci hl9 hdd ⟨tk_lnle hM, tk_lnle hM2, tk_szle hM, tk_szle hM2⟩ hst hc hq hd (fun z I' R' e => ?_)
  rw [e.1, e.2]
  exact k
theorem T_mna {ix N K n' : Nat} {x y : Int} (hx : ((N : Nat) : Int) = x) (hy : ((K : Nat) : Int) = y) (hN : 0 < N ∧ N ≤ 100000) (hK : K ≤ 100000) (hw : Cond.classLink md.1.cls ix "[[I" ∈ tG) (he : MF.take n ++ (15, N) :: List.replicate N (12, K) = MF.take n') (hnl : n ≤ 319) (hm : n' ≤ m) (hc : 64 + (n : Int) = c) (hI : Lt WI c) (hR : Lt WR c)
    (hq : pc + 4 = q) (hd : decode md.2.1 pc = .ok (.multianewarray ix 2, 4)) (k : PW X d (MF.take m) md Ms q ls ((2, c) :: st) (wr WI) (wr (rws c N ++ WR)) (MF.take n') Q) : PW X d (MF.take m) md Ms pc ls ((0, y) :: (0, x) :: st) (wr WI) (wr WR) (MF.take n) Q := by
  have hl : (MF.take n).length = n := tk_len (by rw [show MF.length = 319 by decide +kernel]; exact hnl)
  have e1 := tk_lnle hm
  have e2 := tk_szle hm
  rw [← he] at e1 e2
  rw [List.length_append, List.length_cons, List.length_replicate] at e1
  rw [szM_app, szM_rep] at e2
  subst hx
  subst hy
  refine P_mna hw (tGp1 71 rfl rfl) hN hK ⟨by omega, e2⟩ hq hd ?_
  rw [hl, hc, he, wr_zI hI.out, wr_zR hR.out]
  exact k
theorem T_aast {a i x : Int} (hv : kd M x = 8) (hk : kd M a = 16) (hw : w32 i = i) (hi : 0 ≤ i ∧ i < ln M a) (hq : pc + 1 = q) (hd : decode md.2.1 pc = .ok (.aastore, 1)) (k : PW X d Me md Ms q ls st I (wr ((a, i, x) :: WR)) M Q) : PW X d Me md Ms pc ls ((2, x) :: (0, i) :: (2, a) :: st) I (wr WR) M Q := P_aastore hv hk (by rw [hw]; exact hi) hq hd (by rw [hw]; exact k)
end
