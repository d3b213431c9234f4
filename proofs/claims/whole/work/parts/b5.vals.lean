/-! ===== values that a question asks for: the class ===== -/
theorem vb_loop2 {X : CX} {d : Nat} {R : PF} {Q : PV → PF → PF → Prop} {z f a : Int} {e : Int → Int} {s : Int} {I0 : PF} (hs : Shp R) (hd : 2 ≤ d) (hk : kd MF f = 2) (ha : kd MF a = 12) (hn : (ln MF a : Int) = 13) (hne : a ≠ f + 2) (h5 : I0 a 5 = s) (hsb : bd s) (hl : 0 ≤ I0 f 2 ∧ I0 f 2 ≤ 1600) :
    ∀ (w st : List Int) (x2 x3 : Int) (I : PF), Run z e s w st → (∀ c, c ∈ w → 40 ≤ c → c ≤ 50 → al z (c - 40) → I0 a (-1 - dc c) = e (c - 40) ∧ bd (e (c - 40))) → Stk I (f + 2) st x2 → st.length ≤ 64 → CA (I0 (f + 1)) x3 w → 0 ≤ x3 → x3 + w.length = I0 f 2 → FR (fun x y => x = f + 2 ∧ 0 ≤ y ∧ y < 64) I0 I →
    (∀ v, v ∈ st → bd v) → (∀ v, v ∈ ev e s w st → bd v) →
    (∀ I', FR (fun x y => x = f + 2 ∧ 0 ≤ y ∧ y < 64) I0 I' → Q (0, (ev e s w st).headD 0) I' R) → PN X d mX2_valueBy 4 [(2, f), (2, a), (0, x2), (0, x3)] [] I R Q := by
  have k2 := fo2 hk
  have n2 := fo2n hk
  intro w
  induction w with
  | nil =>
    intro st x2 x3 I hr hW hS hsl hc h0 hx hf hb hB hQ
    have e2 : I f 2 = I0 f 2 := hf f 2 (fun c => by omega)
    have hx2 := hS.len
    rw [List.length_nil] at hx
    refine S_X2_valueBy_4 hk (by omega) (by omega) (fun g => ?_) (fun g => by omega)
    refine S_X2_valueBy_211 (by omega) (fun g1 => ?_) (fun g1 => ?_)
    · refine S_X2_valueBy_226 (S_X2_valueBy_227 ?_)
      have hst : st = [] := List.eq_nil_of_length_eq_zero (by omega)
      have := hQ I hf
      rw [hst] at this
      exact this
    · refine S_X2_valueBy_215 hs hk (by omega) (S_X2_valueBy_227 ?_)
      match st, hS, hQ with
      | [], hS, hQ => have := hS.len; simp only [List.length_nil] at this; omega
      | v :: r, hS, hQ =>
        rw [hS.1]
        exact hQ I hf
  | cons c w ih =>
    intro st x2 x3 I hr hW hS hsl hc h0 hx hf hb hB hQ
    have e2 : I f 2 = I0 f 2 := hf f 2 (fun c => by omega)
    have hx2 := hS.len
    have eI : I (f + 1) x3 = dc c := by rw [hf (f + 1) x3 (fun c => by omega)]; exact hc.hd
    have eA : ∀ k, I a k = I0 a k := fun k => hf a k (fun c => hne c.1)
    rw [List.length_cons] at hx
    obtain ⟨⟨-, hok⟩, hr'⟩ := hr
    refine S_X2_valueBy_4 hk (by omega) (by omega) (fun g => by omega) (fun _ => ?_)
    -- what follows a code
    have nx : ∀ (st' : List Int) (y2 : Int) (I1 : PF), ev1 e s c st = st' → Stk I1 (f + 2) st' y2 → st'.length ≤ 64 → FR (fun x y => x = f + 2 ∧ 0 ≤ y ∧ y < 64) I I1 → (∀ v, v ∈ st' → bd v) → PN X d mX2_valueBy 205 [(2, f), (2, a), (0, y2), (0, x3)] [] I1 R Q := fun st' y2 I1 e1 hS1 hl1 f1 hb1 => by
      subst e1
      exact S_X2_valueBy_205 (ih _ y2 (x3 + 1) I1 hr' (fun c' hc' => hW c' (List.mem_cons_of_mem _ hc')) hS1 hl1 hc.tl (by omega) (by omega) (hf.tr f1) hb1 hB hQ)
    have hpu : ∀ v, bd v → st.length < 64 → ev1 e s c st = v :: st → PN X d mX2_valueBy 56 [(2, f), (2, a), (0, x2), (0, x3)] [(0, v), (0, x2), (2, f + 2)] I R Q := fun v hv hlt e1 => by
      refine S_X2_valueBy_56 k2 (by omega) (by omega) (nx _ _ _ e1 hS.push (by rw [List.length_cons]; omega) (FR_u2 ⟨rfl, by omega, by omega⟩) (fun u hu => ?_))
      rcases List.mem_cons.mp hu with c | c
      · rw [c]; exact hv
      · exact hb u c
    have tp : ∀ {v : Int} {r : List Int} {y : Int}, Stk I (f + 2) (v :: r) x2 → (v :: r).length ≤ 64 → Stk (u2 I (f + 2) (x2 - 1) y) (f + 2) (y :: r) x2 := fun {v r y} h hl => ⟨u2_at, (Stk.fr h.2 (fun i i0 i1 => u2_j (by omega)))⟩
    have hdc : -32 ≤ dc c ∧ dc c ≤ 9999 := by
      rcases hok with h | h | h | h | h | h | h
      · rw [dc_n h.1]; omega
      · rw [h.1]; decide
      · have := dc_f ⟨h.1, h.2.1⟩; omega
      · rw [h.1]; decide
      · rw [h.1]; decide
      · rw [dc_s (by omega)]; omega
      · rw [dc_s (by omega)]; omega
    refine S_X2_valueBy_12 hs hk (by omega) (by rw [eI]; omega) (fun g => ?_) (fun g => ?_)
    · rw [eI] at g ⊢
      -- a sign
      have hjn : ∀ {b' a' : Int} {r : List Int}, st = b' :: a' :: r → 1 ≤ c → c ≤ 11 → (10 ≤ c → b01 a' ∧ b01 b') → PN X d mX2_valueBy 63 [(2, f), (2, a), (0, x2), (0, x3), (0, dc c)] [] I R Q := fun {b' a' r} hst c1 c2 h10 => by
        rw [dc_s (by omega)]
        have hS' := hS
        rw [hst] at hS'
        have hb' : bd b' := hb b' (by rw [hst]; simp)
        have ha' : bd a' := hb a' (by rw [hst]; simp)
        have hlen : (st.length : Int) = r.length + 2 := by rw [hst]; simp only [List.length_cons]; omega
        have eb : I (f + 2) (x2 + (-1)) = b' := by rw [show x2 + (-1) = x2 - 1 by omega]; exact hS'.1
        have ea : I (f + 2) (x2 + (-1) - 1) = a' := by rw [show x2 + (-1) - 1 = x2 - 1 - 1 by omega]; exact hS'.2.1
        have i1 := ha'; have i2 := hb'
        unfold bd at i1 i2
        refine S_X2_valueBy_63 (by omega) (fun _ => ?_) (fun g => by omega)
        refine S_X2_valueBy_101 (by omega) (fun _ => ?_) (fun g => by omega)
        refine S_X2_valueBy_144 (by omega) (fun g => by omega) (fun _ => ?_)
        refine S_X2_valueBy_151 (by omega) (fun g => by omega) (fun _ => ?_)
        refine S_X2_valueBy_156 (d1 := 1) hs hk (by omega) (by rw [ea]; omega) (by omega) (by rw [eb]; omega) (by omega) (by rw [ea, eb]; exact c_join ⟨c1, c2⟩ ha' hb' h10) (fun y I1 R1 p => ?_)
        obtain ⟨q1, q2, rfl, rfl⟩ := p
        have q1 : clp y = jn c a' b' := q1
        have q2 : mid y := q2
        unfold mid at q2
        refine S_X2_valueBy_180 (d1 := 0) hs hk (by omega) (c_minL (by unfold in8; omega) (by unfold in8; omega)) (fun y1 I2 R2 p => ?_)
        obtain ⟨(hy1 : y1 = _), rfl, rfl⟩ := p
        refine S_X2_valueBy_200 (d1 := 0) (by omega) (c_maxL (by unfold in8; omega) (by unfold in8; omega)) (fun y2 I3 R3 p => ?_)
        obtain ⟨(hy2 : y2 = _), rfl, rfl⟩ := p
        have ey : y2 = jn c a' b' := by rw [← q1, hy2, hy1]; rfl
        rw [ey]
        have e1 : ev1 e s c st = jn c a' b' :: r := by rw [hst]; exact ev1_j ⟨c1, c2⟩
        refine S_X2_valueBy_203 k2 (by omega) (by omega) (nx _ _ _ e1 ⟨?_, Stk.fr (k := x2 - 1 - 1) hS'.2.2 (fun i i0 i1 => u2_j (by omega))⟩ (by rw [List.length_cons]; omega) (FR_u2 ⟨rfl, by omega, by omega⟩) (fun u hu => ?_))
        · exact u2_at
        · rcases List.mem_cons.mp hu with c' | c'
          · rw [c', ← ey]; unfold bd; omega
          · exact hb u (by rw [hst]; simp [c'])
      rcases hok with h | h | h | h | h | h | h
      · rw [dc_n h.1] at g; omega
      · obtain ⟨rfl, hz, hlt⟩ := h
        obtain ⟨v, r, hst⟩ : ∃ v r, st = v :: r := List.exists_cons_of_length_pos hlt
        have hS' := hS
        rw [hst] at hS'
        have hv : bd v := hb v (by rw [hst]; simp)
        have ev' : I (f + 2) (x2 - 1) = v := hS'.1
        have i1 := hv; have i2 := hsb
        unfold bd at i1 i2
        have t1 : ev1 e s 60 st = (if v = s then 1 else 0) :: r := by rw [hst]; unfold ev1; rw [if_neg (by decide), if_pos (by decide)]
        have fin : ∀ y, y = (if v = s then (1 : Int) else 0) → PN X d mX2_valueBy 140 [(2, f), (2, a), (0, x2), (0, x3)] [(0, y), (0, x2 - 1), (2, f + 2)] I R Q := fun y hy => by
          refine S_X2_valueBy_140 k2 (by omega) (by omega) (nx _ _ _ t1 (by rw [← hy]; exact tp hS' (by rw [← hst]; exact hsl)) (by rw [List.length_cons]; rw [hst, List.length_cons] at hsl; exact hsl) (FR_u2 ⟨rfl, by omega, by omega⟩) (fun u hu => ?_))
          rcases List.mem_cons.mp hu with c' | c'
          · rw [c']; unfold bd; split <;> omega
          · exact hb u (by rw [hst]; simp [c'])
        refine S_X2_valueBy_63 (by omega) (fun _ => ?_) (fun g => absurd g (by decide))
        refine S_X2_valueBy_101 (by omega) (fun g => absurd (show dc 60 = -32 by decide) g) (fun _ => ?_)
        refine S_X2_valueBy_108 (by omega) (fun g => by omega) (fun _ => ?_)
        refine S_X2_valueBy_112 (d1 := 0) hs hk (by omega) (by omega) (c_factAt ha hn (by decide)) (fun y I1 R1 p => ?_)
        obtain ⟨(hy : y = _), rfl, rfl⟩ := p
        rw [eA, h5] at hy
        subst hy
        rw [ev']
        refine S_X2_valueBy_132 (by omega) (by omega) (fun g => ?_) (fun g => ?_)
        · exact S_X2_valueBy_139 (fin 0 (by rw [if_neg g]))
        · exact S_X2_valueBy_135 (fin 1 (by rw [if_pos g]))
      · have := dc_f ⟨h.1, h.2.1⟩; omega
      · rw [h.1] at g; exact absurd g (by decide)
      · obtain ⟨rfl, v, r, hst, hv⟩ := h
        have hS' := hS
        rw [hst] at hS'
        have ev' : I (f + 2) (x2 - 1) = v := hS'.1
        have hlt : 0 < st.length := by rw [hst, List.length_cons]; omega
        have t1 : ev1 e s 12 st = (1 - v) :: r := by rw [hst]; unfold ev1; rw [if_neg (by decide), if_neg (by decide), if_neg (by decide), if_neg (by decide), if_pos rfl]
        have fin : ∀ y, y = 1 - v → PN X d mX2_valueBy 97 [(2, f), (2, a), (0, x2), (0, x3)] [(0, y), (0, x2 - 1), (2, f + 2)] I R Q := fun y hy => by
          refine S_X2_valueBy_97 k2 (by omega) (by omega) (nx _ _ _ t1 (by rw [← hy]; exact tp hS' (by rw [← hst]; exact hsl)) (by rw [List.length_cons]; rw [hst, List.length_cons] at hsl; exact hsl) (FR_u2 ⟨rfl, by omega, by omega⟩) (fun u hu => ?_))
          rcases List.mem_cons.mp hu with c' | c'
          · rw [c']; unfold bd; unfold b01 at hv; omega
          · exact hb u (by rw [hst]; simp [c'])
        have i1 := hv
        unfold b01 at i1
        refine S_X2_valueBy_63 (by omega) (fun g => absurd (show dc 12 = -31 by decide) g) (fun _ => ?_)
        refine S_X2_valueBy_70 (by omega) (fun g => by omega) (fun _ => ?_)
        refine S_X2_valueBy_74 hs hk (by omega) (by omega) (fun g => ?_) (fun g => ?_)
        · exact S_X2_valueBy_96 (fin 0 (by omega))
        · exact S_X2_valueBy_92 (fin 1 (by omega))
      · obtain ⟨c1, c2, b', a', r, hst⟩ := h
        exact hjn hst c1 (by omega) (fun g => by omega)
      · obtain ⟨hc', b', a', r, hst, b1, b2⟩ := h
        exact hjn hst (by omega) (by omega) (fun _ => ⟨b1, b2⟩)
    · rw [eI] at g ⊢
      -- a value
      rcases hok with h | h | h | h | h | h | h
      · have hlt := h.2.2
        have e1 : ev1 e s c st = (c - 1000) :: st := by unfold ev1; rw [if_pos h.1]
        refine S_X2_valueBy_27 (by omega) (fun g => by omega) (fun _ => ?_)
        refine S_X2_valueBy_33 hs hk (by omega) (fun g1 => by rw [dc_n h.1] at g1; omega) (fun _ => ?_)
        rw [dc_n h.1]
        exact S_X2_valueBy_43 (hpu _ (by unfold bd; omega) hlt e1)
      · rw [h.1] at g; exact absurd g (by decide)
      · obtain ⟨c1, c2, c3, hlt⟩ := h
        have hd := dc_f ⟨c1, c2⟩
        have e1 : ev1 e s c st = e (c - 40) :: st := by unfold ev1; rw [if_neg (by omega), if_neg (by omega), if_pos c1]
        refine S_X2_valueBy_27 (by omega) (fun g => by omega) (fun _ => ?_)
        refine S_X2_valueBy_33 hs hk (by omega) (fun _ => ?_) (fun g1 => by omega)
        refine S_X2_valueBy_48 (d1 := 0) (by omega) (c_factAt ha hn (by omega)) (fun y I1 R1 p => ?_)
        obtain ⟨(hy : y = _), rfl, rfl⟩ := p
        have hy' := (hW c (List.mem_cons_self ..) c1 c2 c3).1
        have : y = e (c - 40) := by rw [hy, eA]; exact hy'
        rw [this]
        exact hpu _ (hW c (List.mem_cons_self ..) c1 c2 c3).2 hlt e1
      · obtain ⟨rfl, hlt⟩ := h
        have e1 : ev1 e s 13 st = 1 :: st := by unfold ev1; rw [if_neg (by decide), if_neg (by decide), if_neg (by decide), if_pos rfl]
        refine S_X2_valueBy_27 (by omega) (fun g => by omega) (fun _ => ?_)
        refine S_X2_valueBy_33 hs hk (by omega) (fun g1 => absurd g1 (by decide)) (fun _ => ?_)
        exact S_X2_valueBy_43 (hpu _ (by unfold bd; omega) hlt e1)
      · rw [h.1] at g; exact absurd g (by decide)
      · rw [dc_s (by omega)] at g; omega
      · rw [dc_s (by omega)] at g; omega
/-- the value of a formula w where the facts that it reads are told -/
theorem c_valueBy2 {X : CX} {R I : PF} {z f a : Int} {e : Int → Int} {s : Int} {B : Int → Prop} {w : List Int} (hs : Shp R) (hk : kd MF f = 2) (ha : kd MF a = 12) (hn : (ln MF a : Int) = 13) (hne : a ≠ f + 2) (h5 : I a 5 = s) (hW : ∀ c, c ∈ w → 40 ≤ c → c ≤ 50 → al z (c - 40) → I a (-1 - dc c) = e (c - 40)) (he : ∀ k, bd (e k)) (hsb : bd s) (hl : I f 2 = w.length) (hl2 : (w.length : Int) ≤ 1600) (hc : CA (I (f + 1)) 0 w) (hw : PW1 z B 64 w) (hB : ∀ v, B v → bd v) :
    CN X 2 mX2_valueBy [(2, f), (2, a)] I R (fun v I' R' => v.2 = (ev e s w []).headD 0 ∧ FR (fun x y => x = f + 2 ∧ 0 ≤ y ∧ y < 64) I I' ∧ R' = R) := by
  refine callee_b (by decide +kernel) (Nat.le_of_ble_eq_true rfl) rfl ?_
  obtain ⟨hr, v, hv, b1⟩ := hw e s [] he (fun v h => absurd h List.not_mem_nil) (Nat.le_refl _)
  refine S_X2_valueBy_0 (vb_loop2 (I0 := I) hs (Nat.le_refl _) hk ha hn hne h5 hsb (by omega) w [] 0 0 I hr (fun c hc c1 c2 c3 => ⟨hW c hc c1 c2 c3, he _⟩) rfl (Nat.zero_le _) hc (Int.le_refl _) (by omega) FR.rf (fun v h => absurd h List.not_mem_nil) (fun u hu => ?_) (fun I' h => ⟨rfl, h, rfl⟩))
  rw [hv] at hu
  rcases List.mem_cons.mp hu with c | c
  · rw [c]; exact hB v b1
  · exact absurd c List.not_mem_nil
theorem dc_R {c : Int} (h : 1 ≤ c ∧ c ≤ 10999) : inR (dc c) := by
  unfold dc inR
  repeat' split
  all_goals omega
theorem run_c {z : Int} {e : Int → Int} {s : Int} : ∀ (w st : List Int), Run z e s w st → ∀ c, c ∈ w → 1 ≤ c ∧ c ≤ 10999
  | [], _, _, c, hc => absurd hc List.not_mem_nil
  | a :: w, st, h, c, hc => by
    rcases List.mem_cons.mp hc with e | e
    · rw [e]
      obtain ⟨⟨-, o⟩, -⟩ := h
      omega
    · exact run_c w _ h.2 c e
/-- does the question read how many throws one gets -/
theorem c_reads {X : CX} {R I : PF} {w : List Int} (hs : Shp R) (hl : I 68 2 = w.length) (hl2 : (w.length : Int) ≤ 1600) (hc : CA (I 69) 0 w) (hw : ∀ c, c ∈ w → 1 ≤ c ∧ c ≤ 10999) :
    CN X 0 mX2_reads [(2, 68), (0, 12)] I R (fun v I' R' => (v.2 = 0 ∨ v.2 = 1) ∧ (v.2 = 0 → (50 : Int) ∉ w) ∧ I' = I ∧ R' = R) := by
  refine callee_b (by decide +kernel) (Nat.le_of_ble_eq_true rfl) rfl ?_
  have k68 : kd MF 68 = 2 := by decide +kernel
  have lp : ∀ (m k : Nat), w.length - k < m → k ≤ w.length → (∀ j : Nat, j < k → w.getD j 0 ≠ 50) → (∀ j : Nat, j < w.length → inR (I 69 j)) → PN X 0 mX2_reads 2 [(2, 68), (0, 12), (0, (k : Int))] [] I R (fun v I' R' => (v.2 = 0 ∨ v.2 = 1) ∧ (v.2 = 0 → (50 : Int) ∉ w) ∧ I' = I ∧ R' = R) := by
    intro m
    induction m with
    | zero => intro k h; exact absurd h (Nat.not_lt_zero _)
    | succ m ih =>
      intro k hm hk hj hr
      refine S_X2_reads_2 k68 (by omega) (by omega) (fun g => S_X2_reads_30 ⟨Or.inl rfl, fun _ hmem => ?_, rfl, rfl⟩) (fun g => ?_)
      · obtain ⟨i, hi, e⟩ := List.getElem_of_mem hmem
        refine hj i (by omega) ?_
        rw [List.getD_eq_getElem?_getD, List.getElem?_eq_getElem hi]; exact e
      · have ck : I 69 k = dc (w.getD k 0) := by
          have := hc k (by omega)
          rw [Int.zero_add] at this; exact this
        refine S_X2_reads_10 hs k68 (by omega) (hr k (by omega)) (by decide) (fun g2 => S_X2_reads_24 ?_) (fun g2 => S_X2_reads_22 ⟨Or.inr rfl, fun c => absurd c (by decide), rfl, rfl⟩)
        have := ih (k + 1) (by omega) (by omega) (fun j hj' => ?_) hr
        · rw [show ((k + 1 : Nat) : Int) = (k : Int) + 1 by omega] at this
          exact this
        · by_cases e : j = k
          · rw [e]; intro h50
            refine g2 ?_
            show I 69 (k : Int) = _
            rw [ck, h50]; decide
          · exact hj j (by omega)
  refine S_X2_reads_0 (lp (w.length + 1) 0 (by omega) (by omega) (fun j h => by omega) (fun j hj => ?_))
  have a := hc j hj
  rw [Int.zero_add] at a
  rw [a]
  have e : w.getD j 0 ∈ w := by rw [List.getD_eq_getElem?_getD, List.getElem?_eq_getElem hj]; exact List.getElem_mem hj
  exact dc_R (hw _ e)
noncomputable def eQ (D K : PF) (noon p : Int) (k : Int) : Int := if k = 0 then noon else if k = 2 then K 342 (24 + 4 * p) else if k = 3 then K 342 (25 + 4 * p) else if k = 4 then K 348 (3 + 5 * p + 4) else if k = 5 then (if K 348 1 = p then K 348 2 else 0) else if k = 6 then p else if k = 7 then K 348 (3 + 5 * p) else if k = 8 then K 348 (3 + 5 * p + 1) else if k = 9 then K 348 (3 + 5 * p + 3) else if k = 10 then cnt (fun t => whT D K noon t = p) 33 else 0
noncomputable def vlQ (D K : PF) (noon : Int) (w : List Int) (p : Int) : Int := (ev (eQ D K noon p) (K 348 (3 + 5 * p + 2)) w []).headD 0
theorem eQ_bd {D K : PF} {noon p : Int} (hG : GD D) (hK : KG D K) (hn : bd noon) (hp : 0 ≤ p ∧ p < D 339 1) : ∀ k, bd (eQ D K noon p k) := fun k => by
  have a := hK.2.2.2.2.2 p hp.1 hp.2
  have b := hK.2.2.2.1 p hp.1 hp.2
  have b' : 0 ≤ K 348 (3 + 5 * p) ∧ K 348 (3 + 5 * p) < D 341 0 ∧ 0 ≤ K 348 (3 + 5 * p + 1) ∧ K 348 (3 + 5 * p + 1) < D 341 1 := b
  have d := hG.1
  have d2 := hG.2.1
  have k2 := hK.2.2.1
  have c := cnt_r (fun t => whT D K noon t = p) 33
  unfold eQ
  unfold bd at *
  repeat' split
  all_goals omega
theorem c_tally {X : CX} {I R D K : PF} {noon o : Int} (hs : Shp R) (ho : R 127 0 = o) (hk : kd MF o = 6) (hr1 : R 127 1 = 111) (hr2 : R 127 2 = 0) (hG : GD D) (hW : WD D) (hK : KG D K) (hn : bd noon) (hF : ClF D K noon o 111 I) (hN : WhF D K noon I) :
    CN X 7 mX1_tally [(2, 127)] I R (fun _ I' R' => (∀ p, 0 ≤ p → p < D 339 1 → I' 135 p = cnt (fun t => whT D K noon t = p) 33) ∧ ClF D K noon o 111 I' ∧ FR (fun x y => mGt o x y ∨ x = 135) I I' ∧ R' = R) := by
  refine callee_b (by decide +kernel) (Nat.le_of_ble_eq_true rfl) rfl ?_
  have hD := hG.2.1
  have hpp := sq_o hk
  have n135 : (ln MF 135 : Int) = 6 := nM135
  refine S_X1_tally_0 (d1 := 0) hs (by omega) (c_fill kM135 (by omega)) (fun z I1 R1 r => ?_)
  obtain ⟨r1, r2, rfl⟩ := r
  have f1 : FR (fun x y => x = 135) I I1 := r2.mono (fun x y c => c.1)
  have fr5 : ∀ {J J' : PF}, ClF D K noon o 111 J → FR (fun x y => x = 135) J J' → ClF D K noon o 111 J' := fun {J J'} h g => h.fr hk (Or.inl rfl) hG (g.mono (fun x y c => by unfold mCf; omega)) (by rw [g _ _ (by decide)]; exact h.2.2.2.1.2)
  have lp : ∀ (m k : Nat) (J : PF), 33 - k < m → k ≤ 33 → ClF D K noon o 111 J → WhF D K noon J → (∀ p, 0 ≤ p → p < D 339 1 → J 135 p = cnt (fun t => whT D K noon t = p) k) → FR (fun x y => mGt o x y ∨ x = 135) I J → PN X 7 mX1_tally 10 [(2, 127), (0, (k : Int))] [] J R1 (fun _ I' R' => (∀ p, 0 ≤ p → p < D 339 1 → I' 135 p = cnt (fun t => whT D K noon t = p) 33) ∧ ClF D K noon o 111 I' ∧ FR (fun x y => mGt o x y ∨ x = 135) I I' ∧ R' = R1) := by
    intro m
    induction m with
    | zero => intro k J h; exact absurd h (Nat.not_lt_zero _)
    | succ m ih =>
      intro k J hm hk33 hFJ hNJ hc f
      refine S_X1_tally_10 (by omega) (fun g => ?_) (fun g => ?_)
      · obtain rfl : k = 33 := by omega
        exact S_X1_tally_49 ⟨hc, hFJ, f, rfl⟩
      refine S_X1_tally_16 (d1 := 6) (by omega) (c_got (K := K) (noon := noon) (s := 111) hs ho hk hr1 hr2 (Or.inl rfl) hG hW hK hn hFJ hNJ ⟨by omega, by omega⟩) (fun z4 I4 R4 r => ?_)
      obtain ⟨(hz4 : z4 = _), hF4, hN4, f4, rfl⟩ := r
      have hz4' : z4 = whT D K noon k := hz4
      have wr := whT_r (K := K) (noon := noon) (t := k) hG
      have e135 : ∀ p, I4 135 p = J 135 p := fun p => f4 _ _ (fun c => by unfold mGt mFy mSt1 mWd mCa at c; omega)
      have e3 : I4 111 3 = D 339 1 := hF4.2.2.1.1.2.2.2
      rw [hz4']
      refine S_X1_tally_21 (d1 := 0) hr1 (by omega) (c_knows kM111 (by unfold inR; omega) (by rw [e3]; unfold inR; omega)) kM111 (fun z5 I5 R5 r => ?_)
      obtain ⟨(hz5 : z5 = _), rfl, rfl⟩ := r
      rw [e3] at hz5
      have b5 := bi_r (0 ≤ whT D K noon k ∧ whT D K noon k < D 339 1)
      have f5 : FR (fun x y => mGt o x y ∨ x = 135) I I5 := f.tr (f4.mono (fun x y c => Or.inl c))
      have nx := fun J' h1 h2 h3 h4 => ih (k + 1) J' (by omega) (by omega) h1 h2 h3 h4
      rw [show ((k + 1 : Nat) : Int) = (k : Int) + 1 by omega] at nx
      have c33 := fun p => cnt_r (fun t => whT D K noon t = p) k
      refine S_X1_tally_30 (by omega) (fun g2 => S_X1_tally_43 (nx I5 hF4 hN4 (fun p p0 p1 => ?_) f5)) (fun g2 => ?_)
      · have c := bi_0 (hz5.symm.trans g2)
        rw [e135, hc p p0 p1, cnt, cif_f (by omega)]
      · have c := bi_1 (c := 0 ≤ whT D K noon k ∧ whT D K noon k < D 339 1) (by rw [← hz5]; exact g2)
        have g5 : FR (fun x y => x = 135) I5 (u2 I5 135 (whT D K noon k) (I5 135 (whT D K noon k) + 1)) := FR_u2 rfl
        refine S_X1_tally_33 hs ⟨c.1, by omega⟩ (S_X1_tally_43 (nx _ (fr5 hF4 g5) (hN4.fr (fun y => g5 _ _ (by omega))) (fun p p0 p1 => ?_) (f5.tr (g5.mono (fun x y c => Or.inr c)))))
        by_cases e : p = whT D K noon k
        · rw [← e, u2_at, e135, hc p p0 p1, cnt, cif_t e.symm]
        · rw [u2_j e, e135, hc p p0 p1, cnt, cif_f (fun k => e k.symm)]
  refine S_X1_tally_8 (lp 34 0 I1 (by decide) (by decide) (fr5 hF f1) (hN.fr (fun y => f1 _ _ (by omega))) (fun p p0 p1 => ?_) (f1.mono (fun x y c => Or.inr c)))
  rw [r1 p p0 (by omega)]; rfl
theorem c_valueFor {X : CX} {I R D K : PF} {noon p : Int} {B : Int → Prop} {w : List Int} (hs : Shp R) (hr1 : R 127 1 = 111) (hG : GD D) (hK : KG D K) (hn : bd noon) (hS : StC D K 111 I) (hp : 0 ≤ p ∧ p < D 339 1) (h10 : I 131 10 = noon) (h50 : (50 : Int) ∈ w → I 135 p = cnt (fun t => whT D K noon t = p) 33) (hl : I 68 2 = w.length) (hl2 : (w.length : Int) ≤ 1600) (hc : CA (I 69) 0 w) (hw : PW1 2 B 64 w) (hB : ∀ v, B v → bd v) :
    CN X 3 mX1_valueFor [(2, 127), (0, p), (2, 68)] I R (fun v I' R' => v.2 = vlQ D K noon w p ∧ FR (fun x y => (x = 131 ∧ ((0 ≤ y ∧ y ≤ 9) ∨ y = 12)) ∨ x = 70) I I' ∧ bd (I' 131 5) ∧ R' = R) := by
  refine callee_b (by decide +kernel) (Nat.le_of_ble_eq_true rfl) rfl ?_
  have hD := hG.2.1
  obtain ⟨⟨s0, s1, s2, s3⟩, sp⟩ := hS
  have n131 : (ln MF 131 : Int) = 13 := nM131
  have k2 := hK.2.1
  have ka := hK.2.2.2.2.2 p hp.1 hp.2
  refine S_X1_valueFor_0 (d1 := 0) hr1 (by omega) (c_knows kM111 (by unfold inR; omega) (by unfold inR; omega)) kM111 (fun z I1 R1 r => ?_)
  obtain ⟨(hz : z = _), rfl, rfl⟩ := r
  rw [bi_t (by omega)] at hz
  refine S_X1_valueFor_8 (by omega) (fun _ => ?_) (fun g => by omega)
  refine S_X1_valueFor_13 (d1 := 1) hs hr1 (by omega) (c_tellFacts hs (Or.inl rfl) ⟨hp.1, by omega⟩ (by unfold inR; omega)) kM111 (fun z3 I3 R3 r => ?_)
  obtain ⟨q1, q2, q3, q4, rfl⟩ := r
  have n3 : ∀ x y, x ≠ 131 → I3 x y = I1 x y := fun x y c => q4 x y (fun d => c d.1)
  have fA : FR (fun x y => (x = 131 ∧ ((0 ≤ y ∧ y ≤ 9) ∨ y = 12)) ∨ x = 70) I1 (u2 I3 131 12 (I3 135 p)) := (q4.mono (fun x y c => Or.inl ⟨c.1, Or.inl c.2⟩)).tr (FR_u2 (Or.inl ⟨rfl, Or.inr rfl⟩))
  have v12 : (u2 I3 131 12 (I3 135 p)) 131 12 = I1 135 p := by rw [u2_at]; exact n3 _ _ (by decide)
  have vj : ∀ j, 0 ≤ j → j < 8 → (u2 I3 131 12 (I3 135 p)) 131 j = I1 (113 + p) j := fun j j0 j1 => by rw [u2_j (by omega), q1 j j0 j1, show (111 : Int) + 2 + p = 113 + p by omega]
  have v8 : (u2 I3 131 12 (I3 135 p)) 131 8 = p := by rw [u2_j (by decide)]; exact q2
  have v9 : (u2 I3 131 12 (I3 135 p)) 131 9 = (if p = I1 111 1 then I1 111 2 else 0) := by rw [u2_j (by decide)]; exact q3
  have v10 : (u2 I3 131 12 (I3 135 p)) 131 10 = noon := by rw [u2_j (by decide), q4 _ _ (by decide)]; exact h10
  have pp := sp p hp.1 hp.2
  rw [show (111 : Int) + 2 + p = 113 + p by omega] at pp
  obtain ⟨p0, p1, p2, p3, p4, p5, p6, p7⟩ := pp
  have e68 : (u2 I3 131 12 (I3 135 p)) 68 2 = w.length := by rw [u2_o (by decide), n3 _ _ (by decide)]; exact hl
  have e69 : (u2 I3 131 12 (I3 135 p)) 69 = I1 69 := funext fun y => by rw [u2_o (by decide), n3 _ _ (by decide)]
  generalize hA : u2 I3 131 12 (I3 135 p) = A at *
  have HW : ∀ c, c ∈ w → 40 ≤ c → c ≤ 50 → al 2 (c - 40) → A 131 (-1 - dc c) = eQ D K noon p (c - 40) := fun c hcw c0 c1 c2 => by
    unfold al at c2
    rw [if_neg (by decide), if_neg (by decide)] at c2
    rcases (show c = 40 ∨ c = 42 ∨ c = 43 ∨ c = 44 ∨ c = 45 ∨ c = 46 ∨ c = 47 ∨ c = 48 ∨ c = 49 ∨ c = 50 by omega) with rfl | rfl | rfl | rfl | rfl | rfl | rfl | rfl | rfl | rfl
    · exact v10
    · exact (vj 2 (by decide) (by decide)).trans p2
    · exact (vj 3 (by decide) (by decide)).trans p3
    · exact (vj 7 (by decide) (by decide)).trans p7
    · show A 131 9 = (if K 348 1 = p then K 348 2 else 0)
      rw [v9, s1, s2]
      by_cases e : p = K 348 1
      · rw [if_pos e, if_pos e.symm]
      · rw [if_neg e, if_neg (fun k => e k.symm)]
    · exact v8
    · exact (vj 0 (by decide) (by decide)).trans p0
    · exact (vj 1 (by decide) (by decide)).trans p1
    · exact (vj 6 (by decide) (by decide)).trans p6
    · exact v12.trans (h50 hcw)
  refine S_X1_valueFor_25 (d1 := 2) hs ⟨hp.1, by omega⟩ (by omega) (by rw [hA]; exact c_valueBy2 (z := 2) (e := eQ D K noon p) (s := K 348 (3 + 5 * p + 2)) hs (by decide +kernel) (by decide +kernel) n131 (by decide) (by rw [vj 5 (by decide) (by decide)]; exact p5) HW (eQ_bd hG hK hn hp) (by unfold bd; omega) e68 hl2 (by show CA (A 69) 0 w; rw [e69]; exact hc) hw hB) (by decide +kernel) (fun z5 I5 R5 r => ?_)
  obtain ⟨(hz5 : z5 = _), f5, rfl⟩ := r
  refine S_X1_valueFor_46 ⟨hz5, fA.tr (f5.mono (fun x y c => Or.inr c.1)), ?_, rfl⟩
  rw [f5 _ _ (by decide), vj 5 (by decide) (by decide), p5]
  unfold bd; omega
