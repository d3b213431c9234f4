/-! ===== fields, arrays, new cells ===== -/
def ClOK (ci : Nat) (C : String) (T : u_T) (N : Nat) : Prop := ci < 12 ∧ vwCl[ci]? = some (C, T, N) ∧ (∀ w ∈ u_ws C T N, w ∈ tG) ∧ (∀ k, k < N → parseFieldDescriptor (T k).2.2.1 = some (tyOf ci k)) ∧ (∀ a, a < N → ∀ b, b < N → a ≠ b → (T a).2.1 ≠ (T b).2.1)
theorem cOK0 : ClOK 0 RX0 TX0 2 := ⟨by decide, rfl, inX0, tyX0_ok, nmX0⟩
theorem cOK1 : ClOK 1 RX1 TX1 16 := ⟨by decide, rfl, inX1, tyX1_ok, nmX1⟩
theorem cOK2 : ClOK 2 RX2 TX2 3 := ⟨by decide, rfl, inX2, tyX2_ok, nmX2⟩
theorem cOK3 : ClOK 3 RX3 TX3 4 := ⟨by decide, rfl, inX3, tyX3_ok, nmX3⟩
theorem cOK4 : ClOK 4 RX4 TX4 6 := ⟨by decide, rfl, inX4, tyX4_ok, nmX4⟩
theorem cOK5 : ClOK 5 RX5 TX5 10 := ⟨by decide, rfl, inX5, tyX5_ok, nmX5⟩
theorem cOK6 : ClOK 6 RX6 TX6 15 := ⟨by decide, rfl, inX6, tyX6_ok, nmX6⟩
theorem cOK7 : ClOK 7 RX7 TX7 3 := ⟨by decide, rfl, inX7, tyX7_ok, nmX7⟩
theorem cOK8 : ClOK 8 RX8 TX8 5 := ⟨by decide, rfl, inX8, tyX8_ok, nmX8⟩
theorem cOK9 : ClOK 9 RX10 TX10 20 := ⟨by decide, rfl, inX10, tyX10_ok, nmX10⟩
theorem cOK10 : ClOK 10 RX11 TX11 115 := ⟨by decide, rfl, inX11, tyX11_ok, nmX11⟩
/-- the pool's entry ix of the class own is field j of class ci -/
def FL (own : String) (ix ci j κ : Nat) : Prop := ∃ (C : String) (T : u_T) (N : Nat), ClOK ci C T N ∧ j < N ∧ fk (tyOf ci j) = κ ∧ (Cond.fieldLink own ix (T j).1 (T j).2.1 (T j).2.2.1 ∈ tG ∨ ∃ host, Cond.fieldLinkNest own ix (T j).1 (T j).2.1 (T j).2.2.1 host ∈ tN)
def FW (own : String) (ix ci j : Nat) (ty : FieldType) (b : Bool) : Prop := ∃ (C : String) (T : u_T) (N : Nat), ClOK ci C T N ∧ j < N ∧ tyOf ci j = ty ∧ (T j).2.2.2 = b ∧ ((Cond.fieldLink own ix (T j).1 (T j).2.1 (T j).2.2.1 ∈ tG ∧ (b = true → (T j).1 = own)) ∨ (b = false ∧ ∃ host, Cond.fieldLinkNest own ix (T j).1 (T j).2.1 (T j).2.2.1 host ∈ tN))
theorem cellE_obj {X : CX} {M : PM} {I R : PF} {k c n : Nat} (h : M[k]? = some (c, n)) (hc : c < 12) : cellE X M I R k = .inr (c, (List.range (nF c)).map fun j => pv X (fP (fk (tyOf c j)) I R (64 + (k : Int)) j)) := by
  unfold cellE
  rw [h]
  match c, hc with
  | 0, _ => rfl
  | 1, _ => rfl
  | 2, _ => rfl
  | 3, _ => rfl
  | 4, _ => rfl
  | 5, _ => rfl
  | 6, _ => rfl
  | 7, _ => rfl
  | 8, _ => rfl
  | 9, _ => rfl
  | 10, _ => rfl
  | 11, _ => rfl
theorem cellE_12 {X : CX} {M : PM} {I R : PF} {k n : Nat} (h : M[k]? = some (12, n)) : cellE X M I R k = .inl (xA X 0, n, .inl fun j => Int32.ofInt (I (64 + (k : Int)) j)) := by unfold cellE; rw [h]; rfl
theorem cellE_13 {X : CX} {M : PM} {I R : PF} {k n : Nat} (h : M[k]? = some (13, n)) : cellE X M I R k = .inl (xA X 1, n, .inr (.inl fun j => Int64.ofInt (I (64 + (k : Int)) j))) := by unfold cellE; rw [h]; rfl
theorem cellE_14 {X : CX} {M : PM} {I R : PF} {k n : Nat} (h : M[k]? = some (14, n)) : cellE X M I R k = .inl (xA X 2, n, .inl fun j => Int32.ofInt (I (64 + (k : Int)) j)) := by unfold cellE; rw [h]; rfl
theorem cellE_15 {X : CX} {M : PM} {I R : PF} {k n : Nat} (h : M[k]? = some (15, n)) : cellE X M I R k = .inl (xA X 3, n, .inr (.inr (.inr (.inr fun j => rv X (R (64 + (k : Int)) j))))) := by unfold cellE; rw [h]; rfl
theorem cellE_16 {X : CX} {M : PM} {I R : PF} {k n : Nat} (h : M[k]? = some (16, n)) : cellE X M I R k = .inl (xA X 4, n, .inr (.inr (.inr (.inr fun j => rv X (R (64 + (k : Int)) j))))) := by unfold cellE; rw [h]; rfl
theorem nF_of {ci : Nat} {C : String} {T : u_T} {N : Nat} (h : ClOK ci C T N) : nF ci = N := by unfold nF; rw [h.2.1]
theorem mr_get {α : Type} {N j : Nat} {f : Nat → α} (h : j < N) : ((List.range N).map f)[j]? = some (f j) := by simp [h]
theorem mr_set {α : Type} {N j : Nat} {f g : Nat → α} {v : α} (hj : j < N) (hv : g j = v) (h : ∀ i, i ≠ j → g i = f i) : ((List.range N).map f).set j v = (List.range N).map g := by
  apply List.ext_getElem?
  intro i
  by_cases hi : i < N
  · by_cases e : i = j
    · subst e
      rw [List.getElem?_set_self (by simpa using hi), mr_get hi, hv]
    · rw [List.getElem?_set_ne (Ne.symm e), mr_get hi, mr_get hi, h i e]
  · rw [List.getElem?_eq_none (by simp; omega), List.getElem?_eq_none (by simp; omega)]
theorem u2_at {f : PF} {o j v : Int} : u2 f o j v o j = v := by simp [u2]
theorem u2_o {f : PF} {o j v a b : Int} (h : a ≠ o) : u2 f o j v a b = f a b := by simp [u2, h]
theorem u2_j {f : PF} {o j v a b : Int} (h : b ≠ j) : u2 f o j v a b = f a b := by simp [u2, h]
section
variable {X : CX} {d : Nat} {Me Ms : PM} {md : MD} {pc q : Nat} {ls st : List PV} {I R : PF} {M : PM} {Q : PV → PF → PF → Prop}
theorem P_getf {ix ci j κ : Nat} {o : Int} (hF : FL md.1.cls ix ci j κ) (hk : kd M o = ci) (hq : pc + 3 = q) (hd : decode md.2.1 pc = .ok (.getfield ix, 3)) (k : PW X d Me md Ms q ls (fP κ I R o j :: st) I R M Q) : PW X d Me md Ms pc ls ((2, o) :: st) I R M Q := by
  intro p e s m args below meth c Rm hC H locs cells slots lsm hP hS hl h1 h2
  subst hq
  obtain ⟨C, T, N, hO, hj, rfl, hw⟩ := hF
  obtain ⟨k9, rfl, hk9, hM⟩ := kd_in hk (by have := hO.1; omega)
  have kk := k p e s m args below meth c Rm hC H locs cells slots lsm hP hS hl h1 h2
  have hg := wld_get (X := X) (I := I) (R := R) hk9
  rw [cellE_obj hM hO.1, nF_of hO] at hg
  rw [List.map_cons, pv_k]
  rcases hw with hw | ⟨host, hw⟩
  · exact va_get (D := xD X) (cl := vwCl) hC.1 hC.2.1 hC.2.2.2.2.2.1 hO.2.2.1 hC.2.2.2.2.1 hC.2.2.2.2.2.2.1.1 hP k9 hg hO.2.1 j hj (hC.2.2.2.2.2.1 _ hw) (fun _ h => h) (mr_get hj) hd kk
  · exact va_getN (D := xD X) (cl := vwCl) hC.1 hC.2.1 hC.2.2.2.2.2.1 hO.2.2.1 hC.2.2.2.2.1 hC.2.2.2.2.2.2.1.1 hP k9 hg hO.2.1 j hj (va_Nw.use rfl (hC.2.2.2.2.2.2.1.2.1 _ hw)) (fun _ h => h) (mr_get hj) hd kk
/-- the ground of the putfields -/
theorem P_put0 {ix ci j : Nat} {ty : FieldType} {b : Bool} {o : Int} {v : PV} {I' R' : PF} (hF : FW md.1.cls ix ci j ty b) (hb : b = true → md.1.name = "<init>") (hk : kd M o = ci) (hn : narrow ty (pv X v) = pv X v) (hf : fits ty (pv X v) = true)
    (hat : fP (fk ty) I' R' o j = v) (hI : ∀ a i, (a ≠ o ∨ i ≠ (j : Int)) → I' a i = I a i) (hR : ∀ a i, (a ≠ o ∨ i ≠ (j : Int)) → R' a i = R a i)
    (hq : pc + 3 = q) (hd : decode md.2.1 pc = .ok (.putfield ix, 3)) (k : PW X d Me md Ms q ls st I' R' M Q) : PW X d Me md Ms pc ls (v :: (2, o) :: st) I R M Q := by
  intro p e s m args below meth c Rm hC H locs cells slots lsm hP hS hl h1 h2
  subst hq
  obtain ⟨C, T, N, hO, hj, rfl, hfb, hw⟩ := hF
  obtain ⟨k9, rfl, hk9, hM⟩ := kd_in hk (by have := hO.1; omega)
  have hg := wld_get (X := X) (I := I) (R := R) hk9
  rw [cellE_obj hM hO.1, nF_of hO] at hg
  have hset : (wld X M I R).set k9 (xB X + k9, .inr (ci, ((List.range N).map fun j => pv X (fP (fk (tyOf ci j)) I R (64 + (k9 : Int)) j)).set j (pv X v))) = wld X M I' R' := by
    refine wld_set hk9 ?_ (fun k' hk' i => hI _ _ (Or.inl (by omega))) (fun k' hk' i => hR _ _ (Or.inl (by omega)))
    rw [cellE_obj hM hO.1, nF_of hO]
    congr 2
    refine mr_set hj (by rw [hat]) (fun i hi => ?_)
    have hij : (i : Int) ≠ (j : Int) := by omega
    congr 1
    unfold fP
    split
    · rw [hR _ _ (Or.inr hij)]
    · rw [hI _ _ (Or.inr hij)]
  have kk : ∀ (H1 : Heap) (locs1 : List Loc), va_P (xD X) vwCl ((wld X M I R).set k9 (xB X + k9, .inr (ci, ((List.range N).map fun j => pv X (fP (fk (tyOf ci j)) I R (64 + (k9 : Int)) j)).set j (pv X v)))) H1 → va_D (xO X) ((wld X M I R).set k9 (xB X + k9, .inr (ci, ((List.range N).map fun j => pv X (fP (fk (tyOf ci j)) I R (64 + (k9 : Int)) j)).set j (pv X v)))) → va_S (xO X) s.heap H1 locs1 → W p (xL X) e Rm s m args below meth c H1 locs1 cells slots (MQ below (qO X md.2.2.2 Me Q) args s (Me.length - Ms.length) (szM Me - szM Ms) (xO X)) (F0 m (pc + 3) lsm (st.map (pv X))) := fun H1 locs1 hP1 _ hS1 => by
    rw [hset] at hP1
    exact k p e s m args below meth c Rm hC H1 locs1 cells slots lsm hP1 hS1 hl h1 h2
  have hlen : j < ((List.range N).map fun j => pv X (fP (fk (tyOf ci j)) I R (64 + (k9 : Int)) j)).length := by simpa using hj
  rw [List.map_cons, List.map_cons, pv_k]
  rcases hw with ⟨hw, hown⟩ | ⟨hbf, host, hw⟩
  · cases b with
    | false => exact va_put (D := xD X) (cl := vwCl) hC.1 hC.2.1 hC.2.2.2.2.2.1 hO.2.2.1 (tyOf ci) hO.2.2.2.1 hO.2.2.2.2 hC.2.2.2.2.1 hC.2.2.2.2.2.2.1.1 hP wld_D hS k9 hg hO.2.1 j hj (hC.2.2.2.2.2.1 _ hw) (fun _ h => h) hfb (hO.2.2.2.1 j hj) hn hf hlen hd kk
    | true => exact va_putF (D := xD X) (cl := vwCl) hC.1 hC.2.1 hC.2.2.2.2.2.1 hO.2.2.1 (tyOf ci) hO.2.2.2.1 hO.2.2.2.2 hC.2.2.2.2.1 hC.2.2.2.2.2.2.1.1 hP wld_D hS k9 hg hO.2.1 j hj (hC.2.2.2.2.2.1 _ hw) (fun _ h => h) hfb (by rw [hC.2.2.2.2.2.2.2.2.1]; exact hb rfl) (hown rfl) (hO.2.2.2.1 j hj) hn hf hlen hd kk
  · exact va_putN (D := xD X) (cl := vwCl) hC.1 hC.2.1 hC.2.2.2.2.2.1 hO.2.2.1 (tyOf ci) hO.2.2.2.1 hO.2.2.2.2 hC.2.2.2.2.1 hC.2.2.2.2.2.2.1.1 hP wld_D hS k9 hg hO.2.1 j hj (va_Nw.use rfl (hC.2.2.2.2.2.2.1.2.1 _ hw)) (fun _ h => h) (by rw [hfb]; exact hbf) (hO.2.2.2.1 j hj) hn hf hlen hd kk
theorem u2_out {f : PF} {o j v a i : Int} (h : a ≠ o ∨ i ≠ j) : u2 f o j v a i = f a i := by
  rcases h with h | h
  · exact u2_o h
  · exact u2_j h
theorem P_putI {ix ci j : Nat} {b : Bool} {o x : Int} (hF : FW md.1.cls ix ci j .int b) (hb : b = true → md.1.name = "<init>") (hk : kd M o = ci) (hq : pc + 3 = q) (hd : decode md.2.1 pc = .ok (.putfield ix, 3)) (k : PW X d Me md Ms q ls st (u2 I o j x) R M Q) : PW X d Me md Ms pc ls ((0, x) :: (2, o) :: st) I R M Q :=
  P_put0 hF hb hk rfl rfl (by show (0, u2 I o j x o j) = _; rw [u2_at]) (fun _ _ h => u2_out h) (fun _ _ _ => rfl) hq hd k
theorem P_putZ {ix ci j : Nat} {b : Bool} {o x : Int} (hF : FW md.1.cls ix ci j .boolean b) (hb : b = true → md.1.name = "<init>") (hx : x = 0 ∨ x = 1) (hk : kd M o = ci) (hq : pc + 3 = q) (hd : decode md.2.1 pc = .ok (.putfield ix, 3)) (k : PW X d Me md Ms q ls st (u2 I o j x) R M Q) : PW X d Me md Ms pc ls ((0, x) :: (2, o) :: st) I R M Q :=
  P_put0 hF hb hk (by rcases hx with rfl | rfl <;> rfl) (by rcases hx with rfl | rfl <;> rfl) (by show (0, u2 I o j x o j) = _; rw [u2_at]) (fun _ _ h => u2_out h) (fun _ _ _ => rfl) hq hd k
theorem P_putL {ix ci j : Nat} {b : Bool} {o x : Int} (hF : FW md.1.cls ix ci j .long b) (hb : b = true → md.1.name = "<init>") (hk : kd M o = ci) (hq : pc + 3 = q) (hd : decode md.2.1 pc = .ok (.putfield ix, 3)) (k : PW X d Me md Ms q ls st (u2 I o j x) R M Q) : PW X d Me md Ms pc ls ((1, x) :: (2, o) :: st) I R M Q :=
  P_put0 hF hb hk rfl rfl (by show (1, u2 I o j x o j) = _; rw [u2_at]) (fun _ _ h => u2_out h) (fun _ _ _ => rfl) hq hd k
theorem pv_ref (X : CX) (x : Int) : pv X (2, x) = .null ∨ ∃ a, pv X (2, x) = .ref a := by
  show va_rf (rv X x) = .null ∨ ∃ a, va_rf (rv X x) = .ref a
  cases rv X x with
  | none => exact Or.inl rfl
  | some a => exact Or.inr ⟨a, rfl⟩
def isR : FieldType → Bool
  | .object _ => true
  | .array _ => true
  | _ => false
theorem P_putR {ix ci j : Nat} {ty : FieldType} {b : Bool} {o x : Int} (hF : FW md.1.cls ix ci j ty b) (ht : isR ty = true) (hb : b = true → md.1.name = "<init>") (hk : kd M o = ci) (hq : pc + 3 = q) (hd : decode md.2.1 pc = .ok (.putfield ix, 3)) (k : PW X d Me md Ms q ls st I (u2 R o j x) M Q) : PW X d Me md Ms pc ls ((2, x) :: (2, o) :: st) I R M Q := by
  refine P_put0 hF hb hk ?_ ?_ ?_ (fun _ _ _ => rfl) (fun _ _ h => u2_out h) hq hd k
  · cases ty <;> simp [isR] at ht <;> (rcases pv_ref X x with h | ⟨a, h⟩ <;> rw [h] <;> rfl)
  · cases ty <;> simp [isR] at ht <;> (rcases pv_ref X x with h | ⟨a, h⟩ <;> rw [h] <;> rfl)
  · cases ty <;> simp [isR] at ht <;> (show (2, u2 R o j x o j) = _; rw [u2_at])
end
