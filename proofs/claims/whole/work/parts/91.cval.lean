/-! ===== the class's valueBy runs the codes ===== -/
/-- the codes from x on are w's -/
def CA (g : Int → Int) (x : Int) (w : List Int) : Prop := ∀ j : Nat, j < w.length → g (x + j) = dc (w.getD j 0)
theorem CA.hd {g : Int → Int} {x c : Int} {w : List Int} (h : CA g x (c :: w)) : g x = dc c := by
  have := h 0 (by simp)
  rw [show x + ((0 : Nat) : Int) = x by omega] at this
  exact this
theorem CA.tl {g : Int → Int} {x c : Int} {w : List Int} (h : CA g x (c :: w)) : CA g (x + 1) w := fun j hj => by
  have := h (j + 1) (by rw [List.length_cons]; omega)
  rw [show x + ((j + 1 : Nat) : Int) = x + 1 + j by omega] at this
  exact this
theorem dc_n {c : Int} (h : 1000 ≤ c) : dc c = c - 1000 := by unfold dc; rw [if_pos h]
theorem dc_f {c : Int} (h : 40 ≤ c ∧ c ≤ 50) : -13 ≤ dc c ∧ dc c ≤ -1 := by
  unfold dc
  rw [if_neg (by omega), if_neg (by omega)]
  repeat' split
  all_goals omega
theorem dc_s {c : Int} (h : 1 ≤ c ∧ c ≤ 12) : dc c = -19 - c := by
  unfold dc
  rw [if_neg (by omega), if_neg (by omega), if_neg (by omega), if_neg (by omega), if_neg (by omega), if_neg (by omega), if_neg (by omega), if_neg (by omega), if_neg (by omega), if_neg (by omega), if_neg (by omega), if_neg (by omega), if_neg (by omega), if_neg (by omega)]
/-- the facts tell what the parts are -/
def FA (z : Int) (e : Int → Int) (s : Int) (g : Int → Int) : Prop := (∀ k, 0 ≤ k → k ≤ 10 → al z k → g (-1 - dc (40 + k)) = e k) ∧ g 5 = s
theorem vb_loop {X : CX} {d : Nat} {R : PF} {Q : PV → PF → PF → Prop} {z f a : Int} {e : Int → Int} {s : Int} {I0 : PF} (hs : Shp R) (hd : 2 ≤ d) (hk : kd MF f = 2) (ha : kd MF a = 12) (hn : (ln MF a : Int) = 13) (hne : a ≠ f + 2) (hF : FA z e s (I0 a)) (he : ∀ k, bd (e k)) (hsb : bd s) (hl : 0 ≤ I0 f 2 ∧ I0 f 2 ≤ 1600) :
    ∀ (w st : List Int) (x2 x3 : Int) (I : PF), Run z e s w st → Stk I (f + 2) st x2 → st.length ≤ 64 → CA (I0 (f + 1)) x3 w → 0 ≤ x3 → x3 + w.length = I0 f 2 → FR (fun x y => x = f + 2 ∧ 0 ≤ y ∧ y < 64) I0 I →
    (∀ v, v ∈ st → bd v) → (∀ v, v ∈ ev e s w st → bd v) →
    (∀ I', FR (fun x y => x = f + 2 ∧ 0 ≤ y ∧ y < 64) I0 I' → Q (0, (ev e s w st).headD 0) I' R) → PN X d mX2_valueBy 4 [(2, f), (2, a), (0, x2), (0, x3)] [] I R Q := by
  have k2 := fo2 hk
  have n2 := fo2n hk
  intro w
  induction w with
  | nil =>
    intro st x2 x3 I hr hS hsl hc h0 hx hf hb hB hQ
    have e2 : I f 2 = I0 f 2 := hf f 2 (fun c => by omega)
    have hx2 := hS.len
    rw [List.length_nil] at hx
    refine S_X2_valueBy_4 hk (by omega) (by omega) (fun g => ?_) (fun g => by omega)
    refine S_X2_valueBy_211 (by omega) (fun g1 => ?_) (fun g1 => ?_)
    · refine S_X2_valueBy_226 (S_X2_valueBy_227 ?_)
      have hst : st = [] := List.eq_nil_of_length_eq_zero (by omega)
      have := hQ I hf
      rw [hst] at this
      exact this
    · refine S_X2_valueBy_215 hs hk (by omega) (S_X2_valueBy_227 ?_)
      match st, hS, hQ with
      | [], hS, hQ => have := hS.len; simp only [List.length_nil] at this; omega
      | v :: r, hS, hQ =>
        rw [hS.1]
        exact hQ I hf
  | cons c w ih =>
    intro st x2 x3 I hr hS hsl hc h0 hx hf hb hB hQ
    have e2 : I f 2 = I0 f 2 := hf f 2 (fun c => by omega)
    have hx2 := hS.len
    have eI : I (f + 1) x3 = dc c := by rw [hf (f + 1) x3 (fun c => by omega)]; exact hc.hd
    have eA : ∀ k, I a k = I0 a k := fun k => hf a k (fun c => hne c.1)
    rw [List.length_cons] at hx
    obtain ⟨⟨-, hok⟩, hr'⟩ := hr
    refine S_X2_valueBy_4 hk (by omega) (by omega) (fun g => by omega) (fun _ => ?_)
    -- what follows a code
    have nx : ∀ (st' : List Int) (y2 : Int) (I1 : PF), ev1 e s c st = st' → Stk I1 (f + 2) st' y2 → st'.length ≤ 64 → FR (fun x y => x = f + 2 ∧ 0 ≤ y ∧ y < 64) I I1 → (∀ v, v ∈ st' → bd v) → PN X d mX2_valueBy 205 [(2, f), (2, a), (0, y2), (0, x3)] [] I1 R Q := fun st' y2 I1 e1 hS1 hl1 f1 hb1 => by
      subst e1
      exact S_X2_valueBy_205 (ih _ y2 (x3 + 1) I1 hr' hS1 hl1 hc.tl (by omega) (by omega) (hf.tr f1) hb1 hB hQ)
    have hpu : ∀ v, bd v → st.length < 64 → ev1 e s c st = v :: st → PN X d mX2_valueBy 56 [(2, f), (2, a), (0, x2), (0, x3)] [(0, v), (0, x2), (2, f + 2)] I R Q := fun v hv hlt e1 => by
      refine S_X2_valueBy_56 k2 (by omega) (by omega) (nx _ _ _ e1 hS.push (by rw [List.length_cons]; omega) (FR_u2 ⟨rfl, by omega, by omega⟩) (fun u hu => ?_))
      rcases List.mem_cons.mp hu with c | c
      · rw [c]; exact hv
      · exact hb u c
    have tp : ∀ {v : Int} {r : List Int} {y : Int}, Stk I (f + 2) (v :: r) x2 → (v :: r).length ≤ 64 → Stk (u2 I (f + 2) (x2 - 1) y) (f + 2) (y :: r) x2 := fun {v r y} h hl => ⟨u2_at, (Stk.fr h.2 (fun i i0 i1 => u2_j (by omega)))⟩
    have hdc : -32 ≤ dc c ∧ dc c ≤ 9999 := by
      rcases hok with h | h | h | h | h | h | h
      · rw [dc_n h.1]; omega
      · rw [h.1]; decide
      · have := dc_f ⟨h.1, h.2.1⟩; omega
      · rw [h.1]; decide
      · rw [h.1]; decide
      · rw [dc_s (by omega)]; omega
      · rw [dc_s (by omega)]; omega
    refine S_X2_valueBy_12 hs hk (by omega) (by rw [eI]; omega) (fun g => ?_) (fun g => ?_)
    · rw [eI] at g ⊢
      -- a sign
      have hjn : ∀ {b' a' : Int} {r : List Int}, st = b' :: a' :: r → 1 ≤ c → c ≤ 11 → (10 ≤ c → b01 a' ∧ b01 b') → PN X d mX2_valueBy 63 [(2, f), (2, a), (0, x2), (0, x3), (0, dc c)] [] I R Q := fun {b' a' r} hst c1 c2 h10 => by
        rw [dc_s (by omega)]
        have hS' := hS
        rw [hst] at hS'
        have hb' : bd b' := hb b' (by rw [hst]; simp)
        have ha' : bd a' := hb a' (by rw [hst]; simp)
        have hlen : (st.length : Int) = r.length + 2 := by rw [hst]; simp only [List.length_cons]; omega
        have eb : I (f + 2) (x2 + (-1)) = b' := by rw [show x2 + (-1) = x2 - 1 by omega]; exact hS'.1
        have ea : I (f + 2) (x2 + (-1) - 1) = a' := by rw [show x2 + (-1) - 1 = x2 - 1 - 1 by omega]; exact hS'.2.1
        have i1 := ha'; have i2 := hb'
        unfold bd at i1 i2
        refine S_X2_valueBy_63 (by omega) (fun _ => ?_) (fun g => by omega)
        refine S_X2_valueBy_101 (by omega) (fun _ => ?_) (fun g => by omega)
        refine S_X2_valueBy_144 (by omega) (fun g => by omega) (fun _ => ?_)
        refine S_X2_valueBy_151 (by omega) (fun g => by omega) (fun _ => ?_)
        refine S_X2_valueBy_156 (d1 := 1) hs hk (by omega) (by rw [ea]; omega) (by omega) (by rw [eb]; omega) (by omega) (by rw [ea, eb]; exact c_join ⟨c1, c2⟩ ha' hb' h10) (fun y I1 R1 p => ?_)
        obtain ⟨q1, q2, rfl, rfl⟩ := p
        have q1 : clp y = jn c a' b' := q1
        have q2 : mid y := q2
        unfold mid at q2
        refine S_X2_valueBy_180 (d1 := 0) hs hk (by omega) (c_minL (by unfold in8; omega) (by unfold in8; omega)) (fun y1 I2 R2 p => ?_)
        obtain ⟨(hy1 : y1 = _), rfl, rfl⟩ := p
        refine S_X2_valueBy_200 (d1 := 0) (by omega) (c_maxL (by unfold in8; omega) (by unfold in8; omega)) (fun y2 I3 R3 p => ?_)
        obtain ⟨(hy2 : y2 = _), rfl, rfl⟩ := p
        have ey : y2 = jn c a' b' := by rw [← q1, hy2, hy1]; rfl
        rw [ey]
        have e1 : ev1 e s c st = jn c a' b' :: r := by rw [hst]; exact ev1_j ⟨c1, c2⟩
        refine S_X2_valueBy_203 k2 (by omega) (by omega) (nx _ _ _ e1 ⟨?_, Stk.fr (k := x2 - 1 - 1) hS'.2.2 (fun i i0 i1 => u2_j (by omega))⟩ (by rw [List.length_cons]; omega) (FR_u2 ⟨rfl, by omega, by omega⟩) (fun u hu => ?_))
        · exact u2_at
        · rcases List.mem_cons.mp hu with c' | c'
          · rw [c', ← ey]; unfold bd; omega
          · exact hb u (by rw [hst]; simp [c'])
      rcases hok with h | h | h | h | h | h | h
      · rw [dc_n h.1] at g; omega
      · obtain ⟨rfl, hz, hlt⟩ := h
        obtain ⟨v, r, hst⟩ : ∃ v r, st = v :: r := List.exists_cons_of_length_pos hlt
        have hS' := hS
        rw [hst] at hS'
        have hv : bd v := hb v (by rw [hst]; simp)
        have ev' : I (f + 2) (x2 - 1) = v := hS'.1
        have i1 := hv; have i2 := hsb
        unfold bd at i1 i2
        have t1 : ev1 e s 60 st = (if v = s then 1 else 0) :: r := by rw [hst]; unfold ev1; rw [if_neg (by decide), if_pos (by decide)]
        have fin : ∀ y, y = (if v = s then (1 : Int) else 0) → PN X d mX2_valueBy 140 [(2, f), (2, a), (0, x2), (0, x3)] [(0, y), (0, x2 - 1), (2, f + 2)] I R Q := fun y hy => by
          refine S_X2_valueBy_140 k2 (by omega) (by omega) (nx _ _ _ t1 (by rw [← hy]; exact tp hS' (by rw [← hst]; exact hsl)) (by rw [List.length_cons]; rw [hst, List.length_cons] at hsl; exact hsl) (FR_u2 ⟨rfl, by omega, by omega⟩) (fun u hu => ?_))
          rcases List.mem_cons.mp hu with c' | c'
          · rw [c']; unfold bd; split <;> omega
          · exact hb u (by rw [hst]; simp [c'])
        refine S_X2_valueBy_63 (by omega) (fun _ => ?_) (fun g => absurd g (by decide))
        refine S_X2_valueBy_101 (by omega) (fun g => absurd (show dc 60 = -32 by decide) g) (fun _ => ?_)
        refine S_X2_valueBy_108 (by omega) (fun g => by omega) (fun _ => ?_)
        refine S_X2_valueBy_112 (d1 := 0) hs hk (by omega) (by omega) (c_factAt ha hn (by decide)) (fun y I1 R1 p => ?_)
        obtain ⟨(hy : y = _), rfl, rfl⟩ := p
        rw [eA, hF.2] at hy
        subst hy
        rw [ev']
        refine S_X2_valueBy_132 (by omega) (by omega) (fun g => ?_) (fun g => ?_)
        · exact S_X2_valueBy_139 (fin 0 (by rw [if_neg g]))
        · exact S_X2_valueBy_135 (fin 1 (by rw [if_pos g]))
      · have := dc_f ⟨h.1, h.2.1⟩; omega
      · rw [h.1] at g; exact absurd g (by decide)
      · obtain ⟨rfl, v, r, hst, hv⟩ := h
        have hS' := hS
        rw [hst] at hS'
        have ev' : I (f + 2) (x2 - 1) = v := hS'.1
        have hlt : 0 < st.length := by rw [hst, List.length_cons]; omega
        have t1 : ev1 e s 12 st = (1 - v) :: r := by rw [hst]; unfold ev1; rw [if_neg (by decide), if_neg (by decide), if_neg (by decide), if_neg (by decide), if_pos rfl]
        have fin : ∀ y, y = 1 - v → PN X d mX2_valueBy 97 [(2, f), (2, a), (0, x2), (0, x3)] [(0, y), (0, x2 - 1), (2, f + 2)] I R Q := fun y hy => by
          refine S_X2_valueBy_97 k2 (by omega) (by omega) (nx _ _ _ t1 (by rw [← hy]; exact tp hS' (by rw [← hst]; exact hsl)) (by rw [List.length_cons]; rw [hst, List.length_cons] at hsl; exact hsl) (FR_u2 ⟨rfl, by omega, by omega⟩) (fun u hu => ?_))
          rcases List.mem_cons.mp hu with c' | c'
          · rw [c']; unfold bd; unfold b01 at hv; omega
          · exact hb u (by rw [hst]; simp [c'])
        have i1 := hv
        unfold b01 at i1
        refine S_X2_valueBy_63 (by omega) (fun g => absurd (show dc 12 = -31 by decide) g) (fun _ => ?_)
        refine S_X2_valueBy_70 (by omega) (fun g => by omega) (fun _ => ?_)
        refine S_X2_valueBy_74 hs hk (by omega) (by omega) (fun g => ?_) (fun g => ?_)
        · exact S_X2_valueBy_96 (fin 0 (by omega))
        · exact S_X2_valueBy_92 (fin 1 (by omega))
      · obtain ⟨c1, c2, b', a', r, hst⟩ := h
        exact hjn hst c1 (by omega) (fun g => by omega)
      · obtain ⟨hc', b', a', r, hst, b1, b2⟩ := h
        exact hjn hst (by omega) (by omega) (fun _ => ⟨b1, b2⟩)
    · rw [eI] at g ⊢
      -- a value
      rcases hok with h | h | h | h | h | h | h
      · have hlt := h.2.2
        have e1 : ev1 e s c st = (c - 1000) :: st := by unfold ev1; rw [if_pos h.1]
        refine S_X2_valueBy_27 (by omega) (fun g => by omega) (fun _ => ?_)
        refine S_X2_valueBy_33 hs hk (by omega) (fun g1 => by rw [dc_n h.1] at g1; omega) (fun _ => ?_)
        rw [dc_n h.1]
        exact S_X2_valueBy_43 (hpu _ (by unfold bd; omega) hlt e1)
      · rw [h.1] at g; exact absurd g (by decide)
      · obtain ⟨c1, c2, c3, hlt⟩ := h
        have hd := dc_f ⟨c1, c2⟩
        have e1 : ev1 e s c st = e (c - 40) :: st := by unfold ev1; rw [if_neg (by omega), if_neg (by omega), if_pos c1]
        refine S_X2_valueBy_27 (by omega) (fun g => by omega) (fun _ => ?_)
        refine S_X2_valueBy_33 hs hk (by omega) (fun _ => ?_) (fun g1 => by omega)
        refine S_X2_valueBy_48 (d1 := 0) (by omega) (c_factAt ha hn (by omega)) (fun y I1 R1 p => ?_)
        obtain ⟨(hy : y = _), rfl, rfl⟩ := p
        have hy' := hF.1 (c - 40) (by omega) (by omega) c3
        rw [show 40 + (c - 40) = c by omega] at hy'
        have : y = e (c - 40) := by rw [hy, eA]; exact hy'
        rw [this]
        exact hpu _ (he _) hlt e1
      · obtain ⟨rfl, hlt⟩ := h
        have e1 : ev1 e s 13 st = 1 :: st := by unfold ev1; rw [if_neg (by decide), if_neg (by decide), if_neg (by decide), if_pos rfl]
        refine S_X2_valueBy_27 (by omega) (fun g => by omega) (fun _ => ?_)
        refine S_X2_valueBy_33 hs hk (by omega) (fun g1 => absurd g1 (by decide)) (fun _ => ?_)
        exact S_X2_valueBy_43 (hpu _ (by unfold bd; omega) hlt e1)
      · rw [h.1] at g; exact absurd g (by decide)
      · rw [dc_s (by omega)] at g; omega
      · rw [dc_s (by omega)] at g; omega
/-- the value of a formula w: e the parts, s the way now -/
theorem c_valueBy {X : CX} {R I : PF} {z f a : Int} {e : Int → Int} {s : Int} {B : Int → Prop} {w : List Int} (hs : Shp R) (hk : kd MF f = 2) (ha : kd MF a = 12) (hn : (ln MF a : Int) = 13) (hne : a ≠ f + 2) (hF : FA z e s (I a)) (he : ∀ k, bd (e k)) (hsb : bd s) (hl : I f 2 = w.length) (hl2 : (w.length : Int) ≤ 1600) (hc : CA (I (f + 1)) 0 w) (hw : PW1 z B 64 w) (hB : ∀ v, B v → bd v) :
    CN X 2 mX2_valueBy [(2, f), (2, a)] I R (fun v I' R' => v.2 = (ev e s w []).headD 0 ∧ FR (fun x y => x = f + 2 ∧ 0 ≤ y ∧ y < 64) I I' ∧ R' = R) := by
  refine callee_b (by decide +kernel) (Nat.le_of_ble_eq_true rfl) rfl ?_
  obtain ⟨hr, v, hv, b1⟩ := hw e s [] he (fun v h => absurd h List.not_mem_nil) (Nat.le_refl _)
  refine S_X2_valueBy_0 (vb_loop (I0 := I) hs (Nat.le_refl _) hk ha hn hne hF he hsb (by omega) w [] 0 0 I hr rfl (Nat.zero_le _) hc (Int.le_refl _) (by omega) FR.rf (fun v h => absurd h List.not_mem_nil) (fun u hu => ?_) (fun I' h => ⟨rfl, h, rfl⟩))
  rw [hv] at hu
  rcases List.mem_cons.mp hu with c | c
  · rw [c]; exact hB _ b1
  · exact absurd c List.not_mem_nil
