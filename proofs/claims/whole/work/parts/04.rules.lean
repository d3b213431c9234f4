/-! ===== RULES: an instruction, a row, over the pure machine ===== -/
def wO (md : MD) : List Cond := .code md.1 md.2.1 md.2.2.1 md.2.2.2 :: tG
def rmO (d mc ms : Nat) : Room := { frames := d, cells := mc, slots := ms, locals := 40 * d }
def lvL (X : CX) : Nat → List PV → List (Nat × Value)
  | _, [] => []
  | i, v :: r => if v.1 = 9 then lvL X (i + 1) r else (i, pv X v) :: lvL X (i + 1) r
def gL : Nat → List PV → PV
  | 0, v :: _ => v
  | n + 1, _ :: r => gL n r
  | _, [] => (9, 0)
/-- a long whose second half is the place -/
def kL : Nat → List PV → List PV
  | 1, v :: r => (match v.1 with | 1 => (9, 0) | _ => v) :: r
  | n + 2, v :: r => v :: kL (n + 1) r
  | _, l => l
def pL : Nat → PV → List PV → List PV
  | 0, v, [] => [v]
  | 0, v, _ :: r => v :: r
  | n + 1, v, [] => (9, 0) :: pL n v []
  | n + 1, v, a :: r => a :: pL n v r
def sL (n : Nat) (v : PV) (ls : List PV) : List PV := pL n v (kL n ls)
def sL2 (n : Nat) (v : PV) (ls : List PV) : List PV := pL (n + 1) (9, 0) (pL n v (kL n ls))
def qO (X : CX) (ret : Option FieldType) (M' : PM) (Q : PV → PF → PF → Prop) : Array Value → State → Outcome → State → Prop := match ret with
  | none => va_Qv (S := PF × PF) (fun u => Q (9, 0) u.1 u.2) (fun u t => Stt X t t.heap ∧ Rep X M' u.1 u.2 t.heap) (xO X)
  | some .long => va_Ql (S := PF × PF) (fun r u => ∃ z : Int, r = Int64.ofInt z ∧ Q (1, z) u.1 u.2) (fun u t => Stt X t t.heap ∧ Rep X M' u.1 u.2 t.heap) (xO X)
  | some (.object _) => va_Qr (S := PF × PF × Int) (fun u => u.2.2 ≠ 0 ∧ Q (2, u.2.2) u.1 u.2.1) (fun u a t => a = ad X u.2.2 ∧ Stt X t t.heap ∧ Rep X M' u.1 u.2.1 t.heap) (xO X)
  | some _ => va_Qi (S := PF × PF) (fun r u => ∃ z : Int, r = Int32.ofInt z ∧ Q (0, z) u.1 u.2) (fun u t => Stt X t t.heap ∧ Rep X M' u.1 u.2 t.heap) (xO X)
/-- the method md, called with As over the cells (I, R), answers and leaves what Q says, in at most d frames -/
def Callee (X : CX) (d : Nat) (md : MD) (M M' : PM) (As : List PV) (I R : PF) (Q : PV → PF → PF → Prop) : Prop :=
  Met (xL X) md.1 (wO md) (rmO d (M'.length - M.length) (szM M' - szM M)) (va_Pc (As.map (pv X)) (fun U => Stt X U U.heap ∧ Rep X M I R U.heap ∧ U.heap.size = xB X + M.length)) (qO X md.2.2.2 M' Q) (M'.length - M.length) (szM M' - szM M) (xO X)
def Cx (X : CX) (d : Nat) (Me : PM) (md : MD) (Ms : PM) (p : Program) (s : State) (m : MethodId) (args : Array Value) (meth : Method) (c : Code) (Rm : Room) : Prop :=
  p.tables.exec = Jvm.exec ∧ c.code = md.2.1 ∧ meth.sig.returnType = md.2.2.2 ∧ c.maxLocals = md.2.2.1 ∧ s.vm.findClass md.1.cls = some m.cls ∧ (∀ w ∈ tG, w.before args s = true) ∧ Stt X s s.heap ∧ meth.locks = false ∧ meth.name = md.1.name ∧
  d ≤ Rm.frames ∧ 40 * d ≤ Rm.locals ∧ Me.length - Ms.length ≤ Rm.cells ∧ szM Me - szM Ms ≤ Rm.slots ∧ s.heap.size = xB X + Ms.length
def PW (X : CX) (d : Nat) (Me : PM) (md : MD) (Ms : PM) (pc : Nat) (ls st : List PV) (I R : PF) (M : PM) (Q : PV → PF → PF → Prop) : Prop :=
  ∀ (p : Program) (e : Env) (s : State) (m : MethodId) (args : Array Value) (below : List Frame) (meth : Method) (c : Code) (Rm : Room), Cx X d Me md Ms p s m args meth c Rm →
  ∀ (H : Heap) (locs : List Loc) (cells slots : Nat) (lsm : Array Slot), Rep X M I R H → va_S (xO X) s.heap H locs → lv_has lsm md.2.2.1 (lvL X 0 ls) → cells + Ms.length = M.length → slots + szM Ms = szM M →
    W p (xL X) e Rm s m args below meth c H locs cells slots (MQ below (qO X md.2.2.2 Me Q) args s (Me.length - Ms.length) (szM Me - szM Ms) (xO X)) (F0 m pc lsm (st.map (pv X)))
theorem lvL_mem {X : CX} {q : Nat × Value} : ∀ {ls : List PV} {i : Nat}, q ∈ lvL X i ls ↔ ∃ j, (gL j ls).1 ≠ 9 ∧ q = (i + j, pv X (gL j ls))
  | [], i => by simp [lvL, gL]
  | v :: r, i => by
    unfold lvL
    constructor
    · intro h
      by_cases hv : v.1 = 9
      · rw [if_pos hv] at h
        obtain ⟨j, h1, h2⟩ := lvL_mem.mp h
        exact ⟨j + 1, h1, by rw [h2]; congr 1; omega⟩
      · rw [if_neg hv] at h
        rcases List.mem_cons.mp h with h | h
        · exact ⟨0, hv, by rw [h]; rfl⟩
        · obtain ⟨j, h1, h2⟩ := lvL_mem.mp h
          exact ⟨j + 1, h1, by rw [h2]; congr 1; omega⟩
    · rintro ⟨j, h1, h2⟩
      cases j with
      | zero =>
        have h1 : v.1 ≠ 9 := h1
        rw [if_neg h1]
        exact List.mem_cons.mpr (Or.inl h2)
      | succ j =>
        have h3 : q ∈ lvL X (i + 1) r := lvL_mem.mpr ⟨j, h1, by rw [h2]; congr 1; omega⟩
        by_cases hv : v.1 = 9
        · rw [if_pos hv]; exact h3
        · rw [if_neg hv]; exact List.mem_cons_of_mem _ h3
theorem gL_pL (v : PV) : ∀ (n j : Nat) (ls : List PV), gL j (pL n v ls) = if j = n then v else gL j ls
  | 0, 0, [] => rfl
  | 0, 0, _ :: _ => rfl
  | 0, j + 1, [] => by simp [pL, gL]
  | 0, j + 1, a :: r => by simp [pL, gL]
  | n + 1, 0, [] => by simp [pL, gL]
  | n + 1, 0, a :: r => by simp [pL, gL]
  | n + 1, j + 1, [] => by
    have := gL_pL v n j []
    simp only [pL, gL, this, Nat.add_right_cancel_iff]
  | n + 1, j + 1, a :: r => by
    have := gL_pL v n j r
    simp only [pL, gL, this, Nat.add_right_cancel_iff]
theorem gL_kL : ∀ (n j : Nat) (ls : List PV), gL j (kL n ls) = if j + 1 = n ∧ (gL j ls).1 = 1 then (9, 0) else gL j ls
  | 0, j, ls => by simp [kL]
  | n + 1, j, [] => by cases n <;> cases j <;> simp [kL, gL]
  | 1, 0, v :: r => by
    simp only [kL, gL, Nat.zero_add, true_and]
    split
    · rename_i h; rw [if_pos h]
    · rename_i h; rw [if_neg h]
  | 1, j + 1, v :: r => by simp [kL, gL]
  | n + 2, 0, v :: r => by simp [kL, gL]
  | n + 2, j + 1, v :: r => by
    have := gL_kL (n + 1) j r
    simp only [kL, gL, this, Nat.add_right_cancel_iff]
theorem pv_cat {X : CX} {v : PV} : (pv X v).category = if v.1 = 1 then 2 else 1 := by
  obtain ⟨a, b⟩ := v
  unfold pv
  match a with
  | 0 => rfl
  | 1 => rfl
  | a + 2 =>
    simp only [va_rf]
    rw [if_neg (by omega)]
    split <;> rfl
theorem lv_mono {ls : Array Slot} {nL : Nat} {l l' : List (Nat × Value)} (h : lv_has ls nL l) (hl : ∀ q ∈ l', q ∈ l) : lv_has ls nL l' := ⟨h.1, h.2.1, fun q hq => h.2.2 q (hl q hq)⟩
theorem lv_get {X : CX} {lsm : Array Slot} {nL n : Nat} {ls : List PV} {v : PV} (h : lv_has lsm nL (lvL X 0 ls)) (hv : gL n ls = v) (h9 : v.1 ≠ 9) : lsm[n]? = some (.val (pv X v)) :=
  h.2.2 (n, pv X v) (lvL_mem.mpr ⟨n, by rw [hv]; exact h9, by rw [hv, Nat.zero_add]⟩)
theorem lvL_sL {X : CX} {n : Nat} {v : PV} {ls : List PV} : ∀ q ∈ lvL X 0 (sL n v ls), q ∈ (n, pv X v) :: (lvL X 0 ls).filter (fun q => !(q.1 == n) && !(q.1 + 1 == n && q.2.category == 2)) := by
  intro q hq
  obtain ⟨j, h1, h2⟩ := lvL_mem.mp hq
  unfold sL at h1 h2
  rw [gL_pL, gL_kL] at h1 h2
  rw [Nat.zero_add] at h2
  by_cases hj : j = n
  · rw [if_pos hj] at h2
    rw [h2, hj]
    exact List.mem_cons_self
  · rw [if_neg hj] at h1 h2
    by_cases hk : j + 1 = n ∧ (gL j ls).1 = 1
    · rw [if_pos hk] at h1; exact absurd rfl h1
    · rw [if_neg hk] at h1 h2
      refine List.mem_cons_of_mem _ (List.mem_filter.mpr ⟨lvL_mem.mpr ⟨j, h1, by rw [h2, Nat.zero_add]⟩, ?_⟩)
      rw [h2]
      simp only [pv_cat]
      by_cases h3 : (gL j ls).1 = 1
      · have : ¬ j + 1 = n := fun e => hk ⟨e, h3⟩
        simp [hj, this]
      · simp [hj, h3]
theorem lvL_sL2 {X : CX} {n : Nat} {v : PV} {ls : List PV} : ∀ q ∈ lvL X 0 (sL2 n v ls), q ∈ (n, pv X v) :: (lvL X 0 ls).filter (fun q => !(q.1 == n) && (!(q.1 == n + 1) && !(q.1 + 1 == n && q.2.category == 2))) := by
  intro q hq
  obtain ⟨j, h1, h2⟩ := lvL_mem.mp hq
  unfold sL2 at h1 h2
  rw [gL_pL, gL_pL, gL_kL] at h1 h2
  rw [Nat.zero_add] at h2
  by_cases hj1 : j = n + 1
  · rw [if_pos hj1] at h1; exact absurd rfl h1
  rw [if_neg hj1] at h1 h2
  by_cases hj : j = n
  · rw [if_pos hj] at h2
    rw [h2, hj]
    exact List.mem_cons_self
  · rw [if_neg hj] at h1 h2
    by_cases hk : j + 1 = n ∧ (gL j ls).1 = 1
    · rw [if_pos hk] at h1; exact absurd rfl h1
    · rw [if_neg hk] at h1 h2
      refine List.mem_cons_of_mem _ (List.mem_filter.mpr ⟨lvL_mem.mpr ⟨j, h1, by rw [h2, Nat.zero_add]⟩, ?_⟩)
      rw [h2]
      simp only [pv_cat]
      by_cases h3 : (gL j ls).1 = 1
      · have : ¬ j + 1 = n := fun e => hk ⟨e, h3⟩
        simp [hj, hj1, this]
      · simp [hj, hj1, h3]
