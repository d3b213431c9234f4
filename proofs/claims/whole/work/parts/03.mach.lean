/-! ===== THE PURE MACHINE: values are whole numbers with a tag, cells are numbered; PW: from here the method comes to its end with Q ===== -/
/-- a value: tag (0 int, 1 long, 2 reference, 9 nothing known), and a whole number (a reference: the cell's number, 0 null) -/
abbrev PV : Type := Nat × Int
abbrev PF : Type := Int → Int → Int
abbrev PM : Type := List (Nat × Nat)
/-- launch, classes, array classes, first cell, cells of statics, the script -/
abbrev CX : Type := Launch × va_G × (Nat → ClassId) × Nat × (Nat → Nat) × Nat × (Nat → Int32)
def xL (X : CX) : Launch := X.1
def xD (X : CX) : va_G := X.2.1
def xA (X : CX) : Nat → ClassId := X.2.2.1
def xB (X : CX) : Nat := X.2.2.2.1
def xS (X : CX) : Nat → Nat := X.2.2.2.2.1
def xN (X : CX) : Nat := X.2.2.2.2.2.1
def xV (X : CX) : Nat → Int32 := X.2.2.2.2.2.2
def xO (X : CX) : Nat → Prop := fun q => xB X ≤ q
def ad (X : CX) (o : Int) : Nat := if o < 64 then xS X o.toNat else xB X + (o - 64).toNat
def rv (X : CX) (o : Int) : Option Nat := if o = 0 then none else some (ad X o)
def pv (X : CX) (v : PV) : Value := match v.1 with
  | 0 => .int (Int32.ofInt v.2)
  | 1 => .long (Int64.ofInt v.2)
  | _ => va_rf (rv X v.2)
def tyOf : Nat → Nat → FieldType := fun c => match c with
  | 0 => tyX0 | 1 => tyX1 | 2 => tyX2 | 3 => tyX3 | 4 => tyX4 | 5 => tyX5 | 6 => tyX6 | 7 => tyX7 | 8 => tyX8 | 9 => tyX10 | _ => tyX11
def nF (c : Nat) : Nat := match vwCl[c]? with
  | some q => q.2.2
  | none => 0
/-- a field's kind: 0 int, 1 long, 2 reference -/
def fk (ty : FieldType) : Nat := match ty with
  | .long => 1
  | .object _ => 2
  | .array _ => 2
  | _ => 0
def fP (k : Nat) (I R : PF) (o : Int) (j : Nat) : PV := match k with
  | 2 => (2, R o j)
  | t => (t, I o j)
def cellE (X : CX) (M : PM) (I R : PF) (k : Nat) : va_E := match M[k]? with
  | none => .inl (0, 0, .inl fun _ => 0)
  | some (c, n) => match c with
    | 12 => .inl (xA X 0, n, .inl fun j => Int32.ofInt (I (64 + k) j))
    | 13 => .inl (xA X 1, n, .inr (.inl fun j => Int64.ofInt (I (64 + k) j)))
    | 14 => .inl (xA X 2, n, .inl fun j => Int32.ofInt (I (64 + k) j))
    | 15 => .inl (xA X 3, n, .inr (.inr (.inr (.inr fun j => rv X (R (64 + k) j)))))
    | 16 => .inl (xA X 4, n, .inr (.inr (.inr (.inr fun j => rv X (R (64 + k) j)))))
    | c => .inr (c, (List.range (nF c)).map fun j => pv X (fP (fk (tyOf c j)) I R (64 + k) j))
def wld (X : CX) (M : PM) (I R : PF) : va_W := (List.range M.length).map fun k => (xB X + k, cellE X M I R k)
def xT (X : CX) : List (ClassId × FieldType) := [(xA X 0, .int), (xA X 1, .long), (xA X 2, .char), (xA X 3, .array .int), (xA X 4, .object "NoonHat$State")]
def Rep (X : CX) (M : PM) (I R : PF) (H : Heap) : Prop := va_P (xD X) vwCl (wld X M I R) H
def szM (M : PM) : Nat := (M.map fun q => q.2).sum
def va_AOA (ty : FieldType) (U : State) : Prop := (Cond.arrayOver (.array ty)).before #[] U = true
theorem va_AOA.moved {ty : FieldType} {u U : State} (hvm : u.vm.Alike U.vm) (h : va_AOA ty u) : va_AOA ty U := by
  unfold va_AOA Cond.before Cond.holds at h ⊢
  simp only [Cond.value, beq_iff_eq] at h ⊢
  cases hc : u.vm.findClass (FieldType.array ty).toString with
  | none => simp [hc] at h
  | some comp =>
    rw [hc, Option.bind_some] at h
    cases hi : (u.vm.classes.findIdx? fun (x : Class) => match x.kind with | .array component _ => component == comp | _ => false) with
    | none =>
      have h9 := (congrArg (fun o : Option Nat => (o.bind (fun c => (u.vm.classes[c]?).map fun (k : Class) => match k.kind with | .array _ t => decide (t = FieldType.array ty) && decide (u.vm.findClass ("[" ++ (FieldType.array ty).toString) = some c) | _ => false))) hi).symm.trans h
      simp at h9
    | some c =>
      have h9 := (congrArg (fun o : Option Nat => (o.bind (fun c => (u.vm.classes[c]?).map fun (k : Class) => match k.kind with | .array _ t => decide (t = FieldType.array ty) && decide (u.vm.findClass ("[" ++ (FieldType.array ty).toString) = some c) | _ => false))) hi).symm.trans h
      rw [Option.bind_some] at h9
      cases hk : u.vm.classes[c]? with
      | none => rw [hk] at h9; simp at h9
      | some k =>
        rw [hk, Option.map_some] at h9
        obtain ⟨k', hk', he⟩ := hvm.2.2 _ _ hk
        have hi2 : (U.vm.classes.findIdx? fun (x : Class) => match x.kind with | .array component _ => component == comp | _ => false) = some c := by
          have b1 := va_idx_bare U.vm comp
          have b2 := va_idx_bare u.vm comp
          rw [hvm.bare_eq] at b1
          exact b1.symm.trans (b2.trans hi)
        have f1 : U.vm.findClass (FieldType.array ty).toString = some comp := by rw [hvm.findClass]; exact hc
        rw [f1, Option.bind_some]
        refine (congrArg (fun o : Option Nat => (o.bind (fun c => (U.vm.classes[c]?).map fun (k : Class) => match k.kind with | .array _ t => decide (t = FieldType.array ty) && decide (U.vm.findClass ("[" ++ (FieldType.array ty).toString) = some c) | _ => false))) hi2).trans ?_
        rw [Option.bind_some, hk', Option.map_some, hvm.findClass]
        have hkk : k'.kind = k.kind := by rw [he]
        rw [hkk]
        exact h9
/-! the statics -/
def wNm : List String := ["OTHER", "SQUARE", "BY", "TOWER", "HIGH", "LAW_WORD", "PERSON", "AT", "TALL_WORD", "PACE_WORD", "DOES", "SPIN", "FORCE_WORD", "WALL_WORD", "WINDS", "MAY", "GUST", "NOON_WORD", "HEIGHT_WORD", "WORE_WORD", "TERMS_WORD", "COLUMN_WORD", "ROW_WORD", "GETS_WORD", "NUMBER_WORD", "OR", "AND", "NOT", "ALL", "MIN", "MAX", "FIRST", "LAST", "OFTEN", "TOTAL", "MOST", "LEAST"]
/-- the words' own fields: code, own, fact, where -/
def wT (j : Nat) : List Int := match j with
  | 0 => [0, 282078293, 41983839, 295406595, 119717838, 173171034, 232608281, 24977727, 287754525, 230176647, 65479509, 281319642, 94421673, 330801246, 335086821, 187559307, 111991167, 209161764, 117630947, 338354415, 289999629, 51270206, 266704650, 103507065, 212302449, 224799543, 21867813, 209249973, 20962395, 191594322, 187539624, 91245096, 173106882, 218819934, 295344468, 194895963, 174878163]
  | 1 => [0, 1, 1, 1, 1, 1, 1, 1, 1, 1, 1, 1, 1, 1, 1, 1, 1, 1, 1, 1, 1, 1, 1, 1, 1, 1, 1, 1, 1, 1, 1, 0, 0, 0, 0, 0, 0]
  | 2 => [-1, -1, -1, -1, -1, -1, -1, -1, 2, 3, -1, -1, 6, -1, -1, -1, -1, 10, 11, 7, 9, 0, 1, 12, 8, -1, -1, -1, -1, -1, -1, -1, -1, -1, -1, -1, -1]
  | _ => [0, 0, 0, 0, 0, 0, 0, 0, 6, 6, 0, 0, 4, 0, 0, 0, 0, 7, 3, 6, 6, 4, 4, 4, 4, 0, 0, 0, 0, 0, 0, 0, 0, 0, 0, 0, 0]
def wF : List (String × String × String × List Int32) := [("NoonHat$Word", "code", "I", (wT 0).map Int32.ofInt), ("NoonHat$Word", "own", "Z", (wT 1).map Int32.ofInt), ("NoonHat$Word", "fact", "I", (wT 2).map Int32.ofInt), ("NoonHat$Word", "where", "I", (wT 3).map Int32.ofInt)]
def sW (j : Nat) (w : Int) : Int := (wT j).getD (w - 1).toNat 0
/-- static arrays of whole numbers: 39 POWERS, 40 COLUMN_STEPS, 41 ROW_STEPS -/
def sT (o : Int) : List Int := if o = 39 then [14348907, 531441, 19683, 729, 27, 1] else if o = 40 then [0, 0, 1, 1, 1, 0, -1, -1, -1] else if o = 41 then [0, -1, -1, 0, 1, 1, 1, 0, -1] else []
/-- the kind of a cell: 0 .. 10 objects, 12 int[], 13 long[], 14 char[], 15 int[][], 16 State[], 20 .. 22 statics, 23 the script -/
def kd (M : PM) (o : Int) : Nat := if o < 64 then (if o ≤ 0 then 99 else if o ≤ 37 then 22 else if o = 38 then 21 else if o ≤ 41 then 20 else if o = 42 then 23 else 99) else match M[(o - 64).toNat]? with
  | some q => q.1
  | none => 99
def ln (M : PM) (o : Int) : Nat := if o < 64 then (if o = 38 then 37 else (sT o).length) else match M[(o - 64).toNat]? with
  | some q => q.2
  | none => 0
def isN : Cond → Bool
  | .fieldLinkNest _ _ _ _ _ _ => true
  | .methodLinkNest _ _ _ _ => true
  | _ => false
def tN : List Cond := lw_tbl.filter isN
def Sta (X : CX) (U : State) (H : Heap) : Prop :=
  va_En "NoonHat$Word" "LNoonHat$Word;" wNm wF (fun i => xS X (i + 1)) (xO X) U H ∧
  va_Z "NoonHat$Word" "WORDS" "[LNoonHat$Word;" (.ref (xS X 38)) (xO X) U H ∧ va_Z "NoonHat$Word" "POWERS" "[I" (.ref (xS X 39)) (xO X) U H ∧
  va_Z "NoonHat" "COLUMN_STEPS" "[I" (.ref (xS X 40)) (xO X) U H ∧ va_Z "NoonHat" "ROW_STEPS" "[I" (.ref (xS X 41)) (xO X) U H ∧
  va_T (.object "NoonHat$Word") (xS X 38) 37 (fun j => .ref (xS X (j + 1))) (xO X) U H ∧
  (∀ o : Int, 39 ≤ o → o ≤ 41 → va_T .int (xS X o.toNat) (sT o).length (fun j => .int (Int32.ofInt ((sT o).getD j 0))) (xO X) U H) ∧
  va_T .int (xS X 42) (xN X) (fun j => .int (xV X j)) (xO X) U H
/-- what a state says, whatever the world's cells hold -/
def Stt (X : CX) (U : State) (H : Heap) : Prop := va_K (xD X) vwCl (xT X) U ∧ (∀ w ∈ tN, va_Nw w U) ∧ va_AOA .int U ∧ va_AO "NoonHat$State" U ∧ Sta X U H
theorem Sta.moved {X : CX} {u U : State} {H : Heap} (hvm : u.vm.Alike U.vm) (h : Sta X u H) : Sta X U H := by
  obtain ⟨h1, h2, h3, h4, h5, h6, h7, h8⟩ := h
  exact ⟨va_En.moved hvm h1, va_Z.moved hvm h2, va_Z.moved hvm h3, va_Z.moved hvm h4, va_Z.moved hvm h5, va_T.moved hvm h6, fun o a b => va_T.moved hvm (h7 o a b), va_T.moved hvm h8⟩
theorem Sta.kept {X : CX} {U : State} {H H1 : Heap} (h : Sta X U H) (hq : ∀ a : Nat, a < H.size → ¬ xO X a → H1[a]? = H[a]?) : Sta X U H1 := by
  obtain ⟨h1, h2, h3, h4, h5, h6, h7, h8⟩ := h
  exact ⟨va_En.kept h1 hq, va_Z.kept h2 hq, va_Z.kept h3 hq, va_Z.kept h4 hq, va_Z.kept h5 hq, va_T.kept h6 hq, fun o a b => va_T.kept (h7 o a b) hq, va_T.kept h8 hq⟩
theorem isN_warm {w : Cond} (hw : isN w = true) {s U : State} (hW : s.WarmedH U.vm) (h : va_Nw w s) : va_Nw w U := by
  cases w <;> simp [isN] at hw
  all_goals first | exact va_Nw.warmF hW h | exact va_Nw.warmM hW h
theorem isN_tabs {w : Cond} (hw : isN w = true) : w.onTables = true := by
  cases w <;> simp [isN] at hw <;> rfl
theorem tN_is {w : Cond} (h : w ∈ tN) : isN w = true := (List.mem_filter.mp h).2
theorem tN_of {w : Cond} (i : Nat) (h : lw_tbl[i]? = some w) (hg : isN w = true) : w ∈ tN := List.mem_filter.mpr ⟨List.mem_of_getElem? h, hg⟩
theorem tNp1 {w : Cond} (j : Nat) (h : tables_1_1[j]? = some w) (hg : isN w = true) : w ∈ tN := List.mem_filter.mpr ⟨List.mem_append_right _ (List.mem_append_left _ (List.mem_of_getElem? h)), hg⟩
theorem tNp2 {w : Cond} (j : Nat) (h : tables_1_2[j]? = some w) (hg : isN w = true) : w ∈ tN := List.mem_filter.mpr ⟨List.mem_append_right _ (List.mem_append_right _ (List.mem_append_left _ (List.mem_of_getElem? h))), hg⟩
theorem tNp3 {w : Cond} (j : Nat) (h : tables_1_3[j]? = some w) (hg : isN w = true) : w ∈ tN := List.mem_filter.mpr ⟨List.mem_append_right _ (List.mem_append_right _ (List.mem_append_right _ (List.mem_append_left _ (List.mem_of_getElem? h)))), hg⟩
theorem tNp4 {w : Cond} (j : Nat) (h : tables_1_4[j]? = some w) (hg : isN w = true) : w ∈ tN := List.mem_filter.mpr ⟨List.mem_append_right _ (List.mem_append_right _ (List.mem_append_right _ (List.mem_append_right _ (List.mem_append_left _ (List.mem_of_getElem? h))))), hg⟩
theorem tNp5 {w : Cond} (j : Nat) (h : tables_1_5[j]? = some w) (hg : isN w = true) : w ∈ tN := List.mem_filter.mpr ⟨List.mem_append_right _ (List.mem_append_right _ (List.mem_append_right _ (List.mem_append_right _ (List.mem_append_right _ (List.mem_append_left _ (List.mem_of_getElem? h)))))), hg⟩
theorem tNp6 {w : Cond} (j : Nat) (h : tables_1_6[j]? = some w) (hg : isN w = true) : w ∈ tN := List.mem_filter.mpr ⟨List.mem_append_right _ (List.mem_append_right _ (List.mem_append_right _ (List.mem_append_right _ (List.mem_append_right _ (List.mem_append_right _ (List.mem_append_left _ (List.mem_of_getElem? h))))))), hg⟩
theorem tNp7 {w : Cond} (j : Nat) (h : tables_1_7[j]? = some w) (hg : isN w = true) : w ∈ tN := List.mem_filter.mpr ⟨List.mem_append_right _ (List.mem_append_right _ (List.mem_append_right _ (List.mem_append_right _ (List.mem_append_right _ (List.mem_append_right _ (List.mem_append_right _ (List.mem_append_left _ (List.mem_of_getElem? h)))))))), hg⟩
theorem tNp8 {w : Cond} (j : Nat) (h : tables_1_8[j]? = some w) (hg : isN w = true) : w ∈ tN := List.mem_filter.mpr ⟨List.mem_append_right _ (List.mem_append_right _ (List.mem_append_right _ (List.mem_append_right _ (List.mem_append_right _ (List.mem_append_right _ (List.mem_append_right _ (List.mem_append_right _ (List.mem_append_left _ (List.mem_of_getElem? h))))))))), hg⟩
theorem tNp9 {w : Cond} (j : Nat) (h : tables_1_9[j]? = some w) (hg : isN w = true) : w ∈ tN := List.mem_filter.mpr ⟨List.mem_append_right _ (List.mem_append_right _ (List.mem_append_right _ (List.mem_append_right _ (List.mem_append_right _ (List.mem_append_right _ (List.mem_append_right _ (List.mem_append_right _ (List.mem_append_right _ (List.mem_of_getElem? h))))))))), hg⟩
theorem Stt.calling {X : CX} {U : State} (g : JFrame) (mk : MethodId) (a : Array Value) (h : Stt X U U.heap) : Stt X (U.calling g mk a) (U.calling g mk a).heap :=
  ⟨va_K.moved (Vm.Alike.refl U.vm) h.1, fun w hw => va_Nw.same (isN_tabs (tN_is hw)) (u := U) (U := U.calling g mk a) rfl (h.2.1 w hw), va_AOA.moved (Vm.Alike.refl U.vm) h.2.2.1, va_AO.moved (Vm.Alike.refl U.vm) h.2.2.2.1, Sta.moved (Vm.Alike.refl U.vm) h.2.2.2.2⟩
/-- the end of a method, or the start of a call: later heap, warmer tables -/
theorem Stt.later {X : CX} {s t : State} {H : Heap} {locs : List Loc} (h : Stt X s s.heap) (hS : va_S (xO X) s.heap H locs) (ht : t.heap = H) (hW : s.WarmedH t.vm) : Stt X t t.heap :=
  ⟨va_K.moved hW.alike h.1, fun w hw => isN_warm (tN_is hw) hW (h.2.1 w hw), va_AOA.moved hW.alike h.2.2.1, va_AO.moved hW.alike h.2.2.2.1, Sta.kept (Sta.moved hW.alike h.2.2.2.2) (fun a h1 h2 => by rw [ht]; exact hS.2.1 a h1 h2)⟩
/-! the world's cells -/
theorem wld_get {X : CX} {M : PM} {I R : PF} {k : Nat} (h : k < M.length) : (wld X M I R)[k]? = some (xB X + k, cellE X M I R k) := by
  simp [wld, h]
theorem kd_in {M : PM} {o : Int} {c : Nat} (h : kd M o = c) (hc : c < 20) : ∃ k : Nat, o = 64 + (k : Int) ∧ k < M.length ∧ M[k]? = some (c, ln M o) := by
  unfold kd at h
  by_cases h1 : o < 64
  · rw [if_pos h1] at h
    by_cases a1 : o ≤ 0
    · rw [if_pos a1] at h; omega
    · rw [if_neg a1] at h
      by_cases a2 : o ≤ 37
      · rw [if_pos a2] at h; omega
      · rw [if_neg a2] at h
        by_cases a3 : o = 38
        · rw [if_pos a3] at h; omega
        · rw [if_neg a3] at h
          by_cases a4 : o ≤ 41
          · rw [if_pos a4] at h; omega
          · rw [if_neg a4] at h
            by_cases a5 : o = 42
            · rw [if_pos a5] at h; omega
            · rw [if_neg a5] at h; omega
  · rw [if_neg h1] at h
    refine ⟨(o - 64).toNat, by omega, ?_⟩
    cases hk : M[(o - 64).toNat]? with
    | none => rw [hk] at h; simp only at h; omega
    | some q =>
      rw [hk] at h
      simp only at h
      refine ⟨(List.getElem?_eq_some_iff.mp hk).1, ?_⟩
      have : ln M o = q.2 := by
        unfold ln
        rw [if_neg h1, hk]
      rw [this, ← h]
theorem ad_k (X : CX) (k : Nat) : ad X (64 + (k : Int)) = xB X + k := by
  unfold ad
  rw [if_neg (by omega)]
  congr 1
  omega
theorem pv_k (X : CX) (k : Nat) : pv X (2, 64 + (k : Int)) = .ref (xB X + k) := by
  show va_rf (rv X (64 + (k : Int))) = _
  unfold rv
  rw [if_neg (by omega), ad_k]
  rfl
theorem wld_D {X : CX} {M : PM} {I R : PF} : va_D (xO X) (wld X M I R) := by
  have key : ∀ (k : Nat) (q : Nat × va_E), (wld X M I R)[k]? = some q → q.1 = xB X + k := fun k q h => by
    have hk : k < M.length := by
      have := (List.getElem?_eq_some_iff.mp h).1
      simpa [wld] using this
    rw [wld_get hk] at h
    cases h
    rfl
  refine ⟨fun i j p q hi hj hpq => ?_, fun k q hk => ?_⟩
  · have h1 := key i p hi
    have h2 := key j q hj
    omega
  · have := key k q hk
    show xB X ≤ q.1
    omega
theorem cellE_congr {X : CX} {M : PM} {I R I' R' : PF} {k : Nat} (hI : ∀ j, I' (64 + (k : Int)) j = I (64 + (k : Int)) j) (hR : ∀ j, R' (64 + (k : Int)) j = R (64 + (k : Int)) j) : cellE X M I' R' k = cellE X M I R k := by
  have hF : ∀ (a j : Nat), fP a I' R' (64 + (k : Int)) j = fP a I R (64 + (k : Int)) j := fun a j => by
    unfold fP
    split
    · rw [hR]
    · rw [hI]
  unfold cellE
  simp only [hI, hR, hF]
theorem wld_set {X : CX} {M : PM} {I R I' R' : PF} {k : Nat} {e : va_E} (hk : k < M.length) (he : e = cellE X M I' R' k) (hI : ∀ (k' : Nat), k' ≠ k → ∀ j, I' (64 + (k' : Int)) j = I (64 + (k' : Int)) j) (hR : ∀ (k' : Nat), k' ≠ k → ∀ j, R' (64 + (k' : Int)) j = R (64 + (k' : Int)) j) :
    (wld X M I R).set k (xB X + k, e) = wld X M I' R' := by
  apply List.ext_getElem?
  intro i
  by_cases hi : i < M.length
  · rw [wld_get hi]
    by_cases hik : i = k
    · subst hik
      rw [List.getElem?_set_self (by simpa [wld] using hk), he]
    · rw [List.getElem?_set_ne (Ne.symm hik), wld_get hi, cellE_congr (hI i hik) (hR i hik)]
  · rw [List.getElem?_eq_none (by simp [wld]; omega), List.getElem?_eq_none (by simp [wld]; omega)]
theorem cellE_push {X : CX} {M : PM} {q : Nat × Nat} {I R I' R' : PF} {k : Nat} (hk : k < M.length) (hI : ∀ j, I' (64 + (k : Int)) j = I (64 + (k : Int)) j) (hR : ∀ j, R' (64 + (k : Int)) j = R (64 + (k : Int)) j) : cellE X (M ++ [q]) I' R' k = cellE X M I R k := by
  rw [← cellE_congr hI hR]
  unfold cellE
  rw [List.getElem?_append_left hk]
theorem wld_push {X : CX} {M : PM} {q : Nat × Nat} {I R I' R' : PF} {e : va_E} (he : e = cellE X (M ++ [q]) I' R' M.length) (hI : ∀ (k : Nat), k < M.length → ∀ j, I' (64 + (k : Int)) j = I (64 + (k : Int)) j) (hR : ∀ (k : Nat), k < M.length → ∀ j, R' (64 + (k : Int)) j = R (64 + (k : Int)) j) :
    wld X M I R ++ [(xB X + M.length, e)] = wld X (M ++ [q]) I' R' := by
  have hl : (wld X M I R).length = M.length := by simp [wld]
  apply List.ext_getElem?
  intro i
  by_cases hi : i < M.length
  · rw [List.getElem?_append_left (by omega), wld_get hi, wld_get (by simp; omega), cellE_push hi (hI i hi) (hR i hi)]
  · rw [List.getElem?_append_right (by omega), hl]
    by_cases h2 : i = M.length
    · subst h2
      rw [Nat.sub_self, wld_get (by simp), he]
      rfl
    · rw [List.getElem?_eq_none (by simp; omega), List.getElem?_eq_none (by simp [wld]; omega)]
