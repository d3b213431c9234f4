/-! ===== the model's question told of a person ===== -/
theorem qt_loop {X : CX} {d : Nat} {R : PF} {Q : PV → PF → PF → Prop} {i : Int} {e : Int → Int} {s : Int} {I0 : PF} (hs : Shp R) (hd : 2 ≤ d) (hi : 0 ≤ i ∧ i < 6) (hF : MA 2 e i I0) (he : ∀ k, bd (e k)) (hsb : bd s) (hes : I0 348 (3 + 5 * i + 2) = s) (h1 : inR (I0 348 1)) (hl : I0 306 104 ≤ 1700) :
    ∀ (w st : List Int) (x3 : Int) (I : PF), Run 2 e s w st → Stk I 381 st (I 306 110) → st.length ≤ 64 → CB (I0 379) x3 w → 0 ≤ x3 → x3 + w.length = I0 306 104 → FR mK I0 I →
    (∀ v, v ∈ st → bd v) →
    (∀ I', FR mK I0 I' → (∀ v, ev e s w st = [v] → I' 381 0 = v) → Q (1, I' 381 0) I' R) → PN X d mX11_qTold 7 [(2, 306), (0, i), (0, x3)] [] I R Q := by
  intro w
  induction w with
  | nil =>
    intro st x3 I hr hS hsl hc h0 hx hf hb hQ
    have e2 : I 306 104 = I0 306 104 := hf _ _ (by unfold mK; omega)
    rw [List.length_nil] at hx
    refine S_X11_qTold_7 (by omega) (by omega) (fun g => ?_) (fun g => by omega)
    refine S_X11_qTold_168 hs (hQ I hf (fun v hv => ?_))
    have hv : st = [v] := hv
    rw [hv] at hS
    have := hS.len
    simp only [List.length_cons, List.length_nil] at this
    have := hS.1
    rw [show I 306 110 - 1 = 0 by omega] at this
    exact this
  | cons c w ih =>
    intro st x3 I hr hS hsl hc h0 hx hf hb hQ
    have e2 : I 306 104 = I0 306 104 := hf _ _ (by unfold mK; omega)
    have eI : I 379 x3 = c := by rw [hf _ _ (by unfold mK; omega)]; exact hc.hd
    have hx2 := hS.len
    rw [List.length_cons] at hx
    obtain ⟨⟨-, hok⟩, hr'⟩ := hr
    refine S_X11_qTold_7 (by omega) (by omega) (fun g => by omega) (fun _ => ?_)
    have nx : ∀ (st' : List Int) (I1 : PF), ev1 e s c st = st' → Stk I1 381 st' (I1 306 110) → st'.length ≤ 64 → FR mK I I1 → (∀ v, v ∈ st' → bd v) → PN X d mX11_qTold 162 [(2, 306), (0, i), (0, x3)] [] I1 R Q := fun st' I1 e1 hS1 hl1 f1 hb1 => by
      subst e1
      exact S_X11_qTold_162 (ih _ (x3 + 1) I1 hr' hS1 hl1 hc.tl (by omega) (by omega) (hf.tr f1) hb1 hQ)
    have hmem : ∀ {u v : Int} {r : List Int}, bd v → (∀ x, x ∈ r → bd x) → u ∈ v :: r → bd u := fun {u v r} hv hr hu => by
      rcases List.mem_cons.mp hu with c' | c'
      · rw [c']; exact hv
      · exact hr u c'
    have hcr : 1 ≤ c ∧ c ≤ 10999 := by omega
    have hjn : ∀ {b' a' : Int} {r : List Int}, st = b' :: a' :: r → 1 ≤ c → c ≤ 11 → (10 ≤ c → b01 a' ∧ b01 b') → PN X d mX11_qTold 42 [(2, 306), (0, i), (0, x3), (0, c)] [] I R Q := fun {b' a' r} hst c1 c2 h10 => by
      have hb' : bd b' := hb b' (by rw [hst]; simp)
      have ha' : bd a' := hb a' (by rw [hst]; simp)
      have hlen : st.length = r.length + 2 := by rw [hst]; simp only [List.length_cons]
      have hrb : ∀ x, x ∈ r → bd x := fun x hx => hb x (by rw [hst]; simp [hx])
      have e1 : ev1 e s c st = jn c a' b' :: r := by rw [hst]; exact ev1_j ⟨c1, c2⟩
      refine S_X11_qTold_42 (by omega) (fun _ => ?_) (fun g => by omega)
      refine S_X11_qTold_85 (by omega) (fun _ => ?_) (fun g => by omega)
      refine S_X11_qTold_110 (by omega) (fun _ => ?_) (fun g => by omega)
      refine S_X11_qTold_124 (by omega) (fun _ => ?_) (fun g => by omega)
      refine S_X11_qTold_157 (d1 := 1) (by omega) (c_qJoins (L := r) (a := a') (b := b') hs (by rw [← hst]; exact hS) (by omega) ⟨c1, c2⟩ ha' hb' h10) (fun u I1 R1 p => ?_)
      obtain ⟨p1, p2, rfl⟩ := p
      refine nx _ _ e1 p1 (by rw [List.length_cons]; omega) (mPi_K p2) (fun u hu => hmem ?_ hrb hu)
      by_cases c9 : c ≤ 9
      · exact jn_bd ⟨c1, c9⟩ ha' hb'
      · obtain ⟨b1, b2⟩ := h10 (by omega)
        exact b01_bd (jn_l01 (by omega) b1 b2)
    refine S_X11_qTold_15 hs (by omega) (by rw [eI]; omega) (fun g => ?_) (fun g => ?_)
    · rw [eI] at g ⊢
      rcases hok with h | h | h | h | h | h | h
      · omega
      · obtain ⟨rfl, -, hlt⟩ := h
        obtain ⟨v, r, hst⟩ : ∃ v r, st = v :: r := List.exists_cons_of_length_pos hlt
        have hS' := hS
        rw [hst] at hS'
        have hv : bd v := hb v (by rw [hst]; simp)
        have e1 : ev1 e s 60 st = (if v = s then 1 else 0) :: r := by rw [hst]; unfold ev1; rw [if_neg (by decide), if_pos (by decide)]
        have hs0 : I 348 (3 + 5 * i + 2) = s := by rw [hf _ _ (by unfold mK; omega)]; exact hes
        have i1 := hv; have i2 := hsb
        unfold bd at i1 i2
        have b1 : bd (if v = s then (1 : Int) else 0) := by unfold bd; split <;> omega
        refine S_X11_qTold_42 (by omega) (fun g => by omega) (fun _ => ?_)
        refine S_X11_qTold_48 (d1 := 0) hs (by omega) (by omega) (callee_b (Q := fun u I' R' => u.2 = (if v = s then (1 : Int) else 0) ∧ I' = I ∧ R' = R) (by decide +kernel) (Nat.le_of_ble_eq_true rfl) rfl (S_X11_qOf_0 (by decide) (S_X11_qOf_12 hs (by omega) (by rw [hs0]; omega) (by rw [hS'.1]; omega) (by rw [hs0]; omega) (fun g => ?_) (fun g => ?_)))) (fun y I1 R1 p => ?_)
        · rw [hS'.1, hs0] at g
          exact S_X11_qOf_35 (S_X11_qOf_36 ⟨by show (0 : Int) = _; rw [if_neg g], rfl, rfl⟩)
        · rw [hS'.1, hs0] at g
          exact S_X11_qOf_31 (S_X11_qOf_36 ⟨by show (1 : Int) = _; rw [if_pos g], rfl, rfl⟩)
        obtain ⟨(hy : y = _), rfl, rfl⟩ := p
        refine S_X11_qTold_78 (d1 := 0) (by omega) (c_qClip (by rw [hy]; unfold mid; unfold bd at b1; omega)) (fun y' I1 R1 p => ?_)
        obtain ⟨(hy' : y' = _), rfl, rfl⟩ := p
        rw [hy', hy, clp_id b1]
        refine S_X11_qTold_81 (by omega) (nx _ _ e1 ?_ (by rw [List.length_cons]; rw [hst, List.length_cons] at hsl; exact hsl) (FR_u2 (Or.inl rfl)) (fun u hu => hmem b1 (fun x hx => hb x (by rw [hst]; simp [hx])) hu))
        rw [u2_o (by decide)]
        exact ⟨u2_at, hS'.2.fr (fun j j0 j1 => u2_j (by omega))⟩
      · obtain ⟨c1, c2, c3, hlt⟩ := h
        have e1 : ev1 e s c st = e (c - 40) :: st := by unfold ev1; rw [if_neg (by omega), if_neg (by omega), if_pos c1]
        have hm : mpt I i (c - 40) = e (c - 40) := by rw [mpt_fr hf]; exact hF _ (by omega) (by omega) c3
        have hbe := he (c - 40)
        refine S_X11_qTold_42 (by omega) (fun _ => ?_) (fun g => by omega)
        refine S_X11_qTold_85 (by omega) (fun g => by omega) (fun _ => ?_)
        refine S_X11_qTold_91 (d1 := 1) (by omega) (c_qPartOf hs (by omega) hi (by rw [hm]; unfold bd at hbe; unfold inR; omega) (by rw [hf _ _ (by unfold mK; omega)]; exact h1)) (fun u I1 R1 p => ?_)
        obtain ⟨(hu : u = _), rfl, rfl⟩ := p
        rw [hu, hm]
        refine S_X11_qTold_101 (d1 := 0) (by omega) (c_qClip (by unfold bd at hbe; unfold mid; omega)) (fun y' I1 R1 p => ?_)
        obtain ⟨(hy' : y' = _), rfl, rfl⟩ := p
        rw [hy', clp_id hbe]
        refine S_X11_qTold_104 (d1 := 0) (by omega) (c_qPuts hs hS (by omega)) (fun u I2 R2 p => ?_)
        obtain ⟨p1, p2, rfl⟩ := p
        exact S_X11_qTold_107 (nx _ _ e1 p1 (by rw [List.length_cons]; omega) (mPi_K p2) (fun u hu => hmem hbe hb hu))
      · obtain ⟨rfl, hlt⟩ := h
        have e1 : ev1 e s 13 st = 1 :: st := by unfold ev1; rw [if_neg (by decide), if_neg (by decide), if_neg (by decide), if_pos rfl]
        refine S_X11_qTold_42 (by omega) (fun _ => ?_) (fun g => by omega)
        refine S_X11_qTold_85 (by omega) (fun _ => ?_) (fun g => by omega)
        refine S_X11_qTold_110 (by omega) (fun g => absurd rfl g) (fun _ => ?_)
        refine S_X11_qTold_116 (d1 := 0) (by omega) (c_qPuts hs hS (by omega)) (fun u I2 R2 p => ?_)
        obtain ⟨p1, p2, rfl⟩ := p
        exact S_X11_qTold_121 (nx _ _ e1 p1 (by rw [List.length_cons]; omega) (mPi_K p2) (fun u hu => hmem (by unfold bd; omega) hb hu))
      · obtain ⟨rfl, v, r, hst, hv⟩ := h
        have e1 : ev1 e s 12 st = (1 - v) :: r := by rw [hst]; unfold ev1; rw [if_neg (by decide), if_neg (by decide), if_neg (by decide), if_neg (by decide), if_pos rfl]
        have hS' := hS
        rw [hst] at hS'
        have hlen : st.length = r.length + 1 := by rw [hst]; simp only [List.length_cons]
        refine S_X11_qTold_42 (by omega) (fun _ => ?_) (fun g => by omega)
        refine S_X11_qTold_85 (by omega) (fun _ => ?_) (fun g => by omega)
        refine S_X11_qTold_110 (by omega) (fun _ => ?_) (fun g => absurd g (by decide))
        refine S_X11_qTold_124 (by omega) (fun g => absurd rfl g) (fun _ => ?_)
        refine S_X11_qTold_130 hs (by omega) ?_
        rw [hS'.1]
        refine nx _ _ e1 ?_ (by rw [List.length_cons]; omega) (FR_u2 (Or.inl rfl)) (fun u hu => hmem (by unfold b01 at hv; unfold bd; omega) (fun x hx => hb x (by rw [hst]; simp [hx])) hu)
        rw [u2_o (by decide)]
        exact ⟨u2_at, hS'.2.fr (fun j j0 j1 => u2_j (by omega))⟩
      · obtain ⟨c1, c2, b', a', r, hst⟩ := h
        exact hjn hst c1 (by omega) (fun g => by omega)
      · obtain ⟨hc', b', a', r, hst, b1, b2⟩ := h
        exact hjn hst (by omega) (by omega) (fun _ => ⟨b1, b2⟩)
    · rw [eI] at g ⊢
      have hlt : st.length < 64 := by omega
      have e1 : ev1 e s c st = (c - 1000) :: st := by unfold ev1; rw [if_pos g]
      refine S_X11_qTold_29 (d1 := 0) (by omega) (by omega) (c_qPuts hs hS (by omega)) (fun u I2 R2 p => ?_)
      obtain ⟨p1, p2, rfl⟩ := p
      exact S_X11_qTold_39 (nx _ _ e1 p1 (by rw [List.length_cons]; omega) (mPi_K p2) (fun u hu => hmem (by unfold bd; omega) hb hu))
/-- what the question tells of person i -/
theorem c_qTold {X : CX} {R I : PF} {i : Int} {e : Int → Int} {s : Int} {B : Int → Prop} {w : List Int} (hs : Shp R) (hi : 0 ≤ i ∧ i < 6) (hF : MA 2 e i I) (he : ∀ k, bd (e k)) (hsb : bd s) (hes : I 348 (3 + 5 * i + 2) = s) (h1 : inR (I 348 1)) (hl : (w.length : Int) = I 306 104) (hl2 : I 306 104 ≤ 1700) (hc : CB (I 379) 0 w) (hw : PW1 2 B 64 w) :
    CN X 2 mX11_qTold [(2, 306), (0, i)] I R (fun v I' R' => v.2 = (ev e s w []).headD 0 ∧ FR mK I I' ∧ R' = R) := by
  refine callee_b (by decide +kernel) (Nat.le_of_ble_eq_true rfl) rfl ?_
  obtain ⟨hr, v, hv, b1⟩ := hw e s [] he (fun v h => absurd h List.not_mem_nil) (Nat.le_refl _)
  have f0 : FR mK I (u2 I 306 110 0) := FR_u2 (Or.inr ⟨rfl, Or.inl rfl⟩)
  refine S_X11_qTold_0 ?_
  have a0 : u2 I 306 110 0 306 110 = 0 := u2_at
  generalize u2 I 306 110 0 = J at f0 a0
  exact qt_loop (I0 := I) hs (Nat.le_refl _) hi hF he hsb hes h1 hl2 w [] _ J hr a0 (Nat.zero_le _) hc (Int.le_refl _) (by omega) f0 (fun v h => absurd h List.not_mem_nil) (fun I' h h2 => ⟨by rw [hv]; exact h2 v hv, h, rfl⟩)
