/-! ===== ask: the model ===== -/
theorem anV_0 {vl : Int → Int} {kk : Int} (hk : 0 ≤ kk ∧ kk < 6) : anV kk vl 0 = if kk < 2 then -1 else 0 := by
  unfold anV aFs aL aO aT aM aN
  repeat' split
  all_goals omega
theorem tkV_an' {vl : Int → Int} {kk : Int} {k : Nat} (hk : 0 ≤ kk ∧ kk < 6) (hb : kk < 3 → vl k = 0 ∨ vl k = 1) : tkV kk (vl k) k (anV kk vl k) (if k = 0 then 1 else 0) = anV kk vl (k + 1) := by
  have h := tkV_an (vl := vl) (kk := kk) (k := k) hk hb
  by_cases c : k = 0
  · subst c
    rw [anV_0 hk]
    rw [if_pos rfl] at h; exact h
  · rw [if_neg c] at h; exact h
def mA (x y : Int) : Prop := scM x y ∨ (x = 306 ∧ (y = 1 ∨ y = 7 ∨ y = 8))
theorem ST.ask {D J J' : PF} (h : ST D J) (hG : GD D) (f : FR mA J J') : ST D J' := by
  have e : ∀ x y, ¬ mA x y → J' x y = J x y := f
  exact h.cg hG (fun y c => e _ _ (fun d => by unfold mA scM at d; omega)) (fun y c => e _ _ (fun d => by unfold mA scM at d; omega)) (fun y c => e _ _ (fun d => by unfold mA scM at d; omega)) (fun y c => e _ _ (fun d => by unfold mA scM at d; omega)) (fun y c => e _ _ (fun d => by unfold mA scM at d; omega)) (fun y c => e _ _ (fun d => by unfold mA scM at d; omega)) (fun x y c c2 => e _ _ (fun d => by unfold mA scM at d; omega)) (fun y c => e _ _ (fun d => by unfold mA scM at d; omega))
/-- the model with the codes of a question, its fault told -/
def MdQ (I J : PF) (C : List Int) (B : PF) : Prop := B 342 = I 342 ∧ B 348 = I 348 ∧ sdR (B 306 78) ∧ Stk B 379 C (B 306 104) ∧ (B 306 7 = 0 ∧ B 306 8 = -1 ∧ B 306 1 = 0) ∧ FR mA J B
theorem MdQ.fr {I J B B' : PF} {C : List Int} (h : MdQ I J C B) (f : FR (fun x y => mGo x y ∨ x = 350 ∨ (x = 306 ∧ (y = 111 ∨ y = 112)) ∨ mK x y) B B') (h78 : B' 306 78 = B 306 78) : MdQ I J C B' := by
  obtain ⟨a1, a2, a3, a4, ⟨a5, a6, a7⟩, a8⟩ := h
  have e : ∀ x y, ¬ (mGo x y ∨ x = 350 ∨ (x = 306 ∧ (y = 111 ∨ y = 112)) ∨ mK x y) → B' x y = B x y := f
  refine ⟨(funext fun y => e _ _ (fun c => by unfold mGo mFl mK at c; omega)).trans a1, (funext fun y => e _ _ (fun c => by unfold mGo mFl mK at c; omega)).trans a2, by rw [h78]; exact a3, ?_, ⟨(e _ _ (fun c => by unfold mGo mFl mK at c; omega)).trans a5, (e _ _ (fun c => by unfold mGo mFl mK at c; omega)).trans a6, (e _ _ (fun c => by unfold mGo mFl mK at c; omega)).trans a7⟩, a8.tr ?_⟩
  · rw [e 306 104 (fun c => by unfold mGo mFl mK at c; omega)]
    exact a4.row (funext fun y => e _ _ (fun c => by unfold mGo mFl mK at c; omega))
  · intro x y c
    by_cases d : x = 306 ∧ y = 78
    · rw [d.1, d.2]; exact h78
    · refine e x y (fun k => c (Or.inl ?_))
      rcases k with k | k | k | k
      · exact mGo_scM k d
      · exact Or.inr (Or.inl ⟨by omega, by omega⟩)
      · refine Or.inl ⟨k.1, ?_⟩
        rcases k.2 with k | k
        · rw [k]; decide
        · rw [k]; decide
      · rcases k with k | ⟨k, k2⟩
        · exact Or.inr (Or.inr (Or.inr (Or.inr (Or.inl k))))
        · refine Or.inl ⟨k, ?_⟩
          rcases k2 with k2 | k2
          · rw [k2]; decide
          · rw [k2]; decide
theorem mask_end {X : CX} {I J R D : PF} {kk : Int} {C : List Int} (hs : Shp R) (hT : ST D J) (hG : GD D) (hW : WD D) (hK : KG D I) (hk : 0 ≤ kk ∧ kk < 6) (hl : (C.length : Int) ≤ 1600) (hw : PW1 2 bd 64 C.reverse) (hw0 : kk < 3 → PW1 2 b01 64 C.reverse) {B : PF} (hB : MdQ I J C B) :
    PN X 10 mX11_ask 160 [(2, 306), (0, kk)] [] B R (fun v I' R' => AnQ D I (.inl (kk, C)) v.2 (I' 306 7) (I' 306 8) ∧ I' 306 1 = 0 ∧ FR mA J I' ∧ R' = R) := by
  have hD := hG.2.1
  have k1 := hK.1
  have k2 := hK.2.1
  have hbn : bd (I 348 0) := by unfold bd; omega
  have st : ∀ {B : PF}, MdQ I J C B → ST D B := fun h => hT.ask hG h.2.2.2.2.2
  have n4 : ∀ {B : PF}, MdQ I J C B → B 339 4 = D 339 1 := fun h => (st h).sq.2.2.2.1
  -- the persons' values
  have lp3 : ∀ (m k : Nat) (B : PF), (D 339 1).toNat - k < m → k ≤ (D 339 1).toNat → MdQ I J C B → (∀ p, 0 ≤ p → p < D 339 1 → B 350 p = cnt (fun t => whT D I (I 348 0) t = p) 33) → B 306 61 = I 348 0 → B 306 111 = anV kk (vlQ D I (I 348 0) C.reverse) k → B 306 112 = (if k = 0 then 1 else 0) →
      PN X 10 mX11_ask 274 [(2, 306), (0, kk), (0, (k : Int))] [] B R (fun v I' R' => AnQ D I (.inl (kk, C)) v.2 (I' 306 7) (I' 306 8) ∧ I' 306 1 = 0 ∧ FR mA J I' ∧ R' = R) := by
    intro m
    induction m with
    | zero => intro k B h; exact absurd h (Nat.not_lt_zero _)
    | succ m ih =>
      intro k B hm hk' hB h350 h61 h111 h112
      have n4 := n4 hB
      refine S_X11_ask_274 (d1 := 0) (by omega) (c_personMany hs) (fun z B1 R1 q => ?_)
      obtain ⟨(hz : z = _), rfl, rfl⟩ := q
      rw [n4] at hz
      rw [hz]
      refine S_X11_ask_279 (by omega) (by omega) (fun g => ?_) (fun g => ?_)
      · obtain rfl : k = (D 339 1).toNat := by omega
        exact S_X11_ask_299 ⟨⟨h111, hB.2.2.2.2.1.1, hB.2.2.2.2.1.2.1⟩, hB.2.2.2.2.1.2.2, hB.2.2.2.2.2, rfl⟩
      have pk : 0 ≤ (k : Int) ∧ (k : Int) < D 339 1 := ⟨by omega, g⟩
      have e2 : ∀ y, B1 342 y = I 342 y := fun y => by rw [hB.1]
      have e8 : ∀ y, B1 348 y = I 348 y := fun y => by rw [hB.2.1]
      have ka := hK.2.2.2.2.2 k pk.1 pk.2
      have hMA : MA 2 (eQ D I (I 348 0) k) k B1 := fun j j0 j1 hj => by
        unfold al at hj
        rw [if_neg (by decide), if_neg (by decide)] at hj
        rcases (show j = 0 ∨ j = 2 ∨ j = 3 ∨ j = 4 ∨ j = 5 ∨ j = 6 ∨ j = 7 ∨ j = 8 ∨ j = 9 ∨ j = 10 by omega) with rfl | rfl | rfl | rfl | rfl | rfl | rfl | rfl | rfl | rfl
        · exact h61
        · exact e2 _
        · exact e2 _
        · exact e8 _
        · show (if B1 348 1 = (k : Int) then B1 348 2 else 0) = (if I 348 1 = (k : Int) then I 348 2 else 0)
          rw [e8, e8]
        · rfl
        · exact e8 _
        · exact e8 _
        · exact e8 _
        · exact h350 k pk.1 pk.2
      have hlen := hB.2.2.2.1.len
      have hCB : CB (B1 379) 0 C.reverse := fun j hj => by
        rw [List.length_reverse] at hj
        rw [Int.zero_add, hB.2.2.2.1.get j (by omega) (by omega)]
        rfl
      refine S_X11_ask_282 (d1 := 2) (by omega) (c_qTold (e := eQ D I (I 348 0) k) (s := I 348 (3 + 5 * (k : Int) + 2)) (B := bd) (w := C.reverse) hs ⟨by omega, by omega⟩ hMA (eQ_bd hG hK hbn pk) (by unfold bd; omega) (e8 _) (by rw [e8]; unfold inR; omega) (by rw [List.length_reverse, hlen]) (by omega) hCB hw) (fun z2 B2 R2 q => ?_)
      obtain ⟨(hz2 : z2 = _), f2, rfl⟩ := q
      have hz2' : z2 = vlQ D I (I 348 0) C.reverse k := hz2
      have vb : bd (vlQ D I (I 348 0) C.reverse k) := vlQ_B hG hK hbn pk hw
      have hB2 : MdQ I J C B2 := hB.fr (f2.mono (fun x y c => Or.inr (Or.inr (Or.inr c)))) (f2 _ _ (fun c => by unfold mK at c; omega))
      have c111 : B2 306 111 = anV kk (vlQ D I (I 348 0) C.reverse) k := (f2 _ _ (fun c => by unfold mK at c; omega)).trans h111
      have c112 : B2 306 112 = (if k = 0 then 1 else 0) := (f2 _ _ (fun c => by unfold mK at c; omega)).trans h112
      have bds : ∀ p : Int, 0 ≤ p → p < k → bd (vlQ D I (I 348 0) C.reverse p) := fun p p0 p1 => vlQ_B hG hK hbn ⟨p0, by omega⟩ hw
      have a1 := aFs_r (vlQ D I (I 348 0) C.reverse) k
      have a2 := aL_r (vlQ D I (I 348 0) C.reverse) k
      have a3 := aO_r (vlQ D I (I 348 0) C.reverse) k
      have a4 := aT_r (vl := vlQ D I (I 348 0) C.reverse) k bds
      have a5 := aM_r (vl := vlQ D I (I 348 0) C.reverse) k bds
      have ar : -9000000 ≤ anV kk (vlQ D I (I 348 0) C.reverse) k ∧ anV kk (vlQ D I (I 348 0) C.reverse) k ≤ 9000000 := by
        unfold bd at a5
        unfold anV
        repeat' split
        all_goals omega
      rw [hz2']
      refine S_X11_ask_289 (d1 := 0) (by omega) (c_qTakes hk vb ⟨by omega, by omega⟩ (by rw [c111]; exact ar) (by rw [c112]; split <;> omega)) (fun z3 B3 R3 q => ?_)
      obtain ⟨t1, t2, t3, rfl⟩ := q
      rw [c111, c112, tkV_an' hk (fun c => vlQ_B hG hK hbn pk (hw0 c))] at t1
      have hB3 : MdQ I J C B3 := hB2.fr (t3.mono (fun x y c => Or.inr (Or.inr (Or.inl c)))) (t3 _ _ (by omega))
      have nx := ih (k + 1) B3 (by omega) (by omega) hB3 (fun p p0 p1 => by rw [t3 _ _ (by omega), f2 _ _ (fun c => by unfold mK at c; omega)]; exact h350 p p0 p1) (by rw [t3 _ _ (by omega), f2 _ _ (fun c => by unfold mK at c; omega)]; exact h61) t1 (by rw [t2, if_neg (by omega)])
      rw [show ((k + 1 : Nat) : Int) = (k : Int) + 1 by omega] at nx
      exact S_X11_ask_293 nx
  -- the throws
  have lp2 : ∀ (m k : Nat) (B : PF), 33 - k < m → k ≤ 33 → MdQ I J C B → (∀ p, 0 ≤ p → p < D 339 1 → B 350 p = cnt (fun t => whT D I (I 348 0) t = p) k) → B 306 111 = (if kk < 2 then -1 else 0) → B 306 112 = 1 →
      PN X 10 mX11_ask 206 [(2, 306), (0, kk), (0, (k : Int))] [] B R (fun v I' R' => AnQ D I (.inl (kk, C)) v.2 (I' 306 7) (I' 306 8) ∧ I' 306 1 = 0 ∧ FR mA J I' ∧ R' = R) := by
    intro m
    induction m with
    | zero => intro k B h; exact absurd h (Nat.not_lt_zero _)
    | succ m ih =>
      intro k B hm hk' hB h350 h111 h112
      refine S_X11_ask_206 (by omega) (fun g => ?_) (fun g => ?_)
      · obtain rfl : k = 33 := by omega
        refine S_X11_ask_257 hs ?_
        have fu : FR (fun x y => x = 306 ∧ (y = 61 ∨ y = 56)) B (u2 (u2 B 306 61 (B 348 0)) 306 56 2) := (FR_u2 ⟨rfl, Or.inl rfl⟩).tr (FR_u2 ⟨rfl, Or.inr rfl⟩)
        have v61 : (u2 (u2 B 306 61 (B 348 0)) 306 56 2) 306 61 = I 348 0 := by rw [u2_j (by decide), u2_at, hB.2.1]
        refine lp3 10 0 _ (by omega) (by omega) (hB.fr (fu.mono (fun x y c => ?_)) (fu _ _ (by omega))) (fun p p0 p1 => by rw [fu _ _ (by omega)]; exact h350 p p0 p1) v61 (by rw [fu _ _ (by omega), h111, anV_0 hk]) (by rw [fu _ _ (by omega), h112]; rfl)
        rcases c with ⟨rfl, rfl | rfl⟩
        · exact Or.inl (Or.inr ⟨rfl, rfl⟩)
        · exact Or.inr (Or.inr (Or.inr (Or.inr ⟨rfl, Or.inr rfl⟩)))
      have ht : 0 ≤ (k : Int) ∧ (k : Int) < 33 := by omega
      refine S_X11_ask_212 (d1 := 0) (by omega) (c_mwayOf ht) (fun a B1 R1 r => ?_)
      obtain ⟨(ha : a = _), rfl, rfl⟩ := r
      refine S_X11_ask_217 (d1 := 0) (by omega) (c_mforceOf ht) (fun b B1 R1 r => ?_)
      obtain ⟨(hb : b = _), rfl, rfl⟩ := r
      rw [ha, hb]
      refine S_X11_ask_221 (d1 := 6) hs (by omega) (by rw [hB.2.1]; exact c_tossT (K := I) hs (st hB) hB.1 hB.2.1 hG hW hK hbn ht hB.2.2.1) (fun c B2 R2 r => ?_)
      obtain ⟨r1, r2, r3, rfl⟩ := r
      have r1' : B2 306 69 = whT D I (I 348 0) k := r1
      have wr := whT_r (K := I) (noon := I 348 0) (t := k) hG
      have hB2 : MdQ I J C B2 := hB.fr (r3.mono (fun x y c => Or.inl c)) r2
      have e350 : ∀ p, B2 350 p = B1 350 p := fun p => r3 _ _ (fun c => by unfold mGo mFl at c; omega)
      have e111 : B2 306 111 = (if kk < 2 then -1 else 0) := (r3 _ _ (fun c => by unfold mGo mFl at c; omega)).trans h111
      have e112 : B2 306 112 = 1 := (r3 _ _ (fun c => by unfold mGo mFl at c; omega)).trans h112
      have nx := fun B' h1 h2 h3 h4 => ih (k + 1) B' (by omega) (by omega) h1 h2 h3 h4
      rw [show ((k + 1 : Nat) : Int) = (k : Int) + 1 by omega] at nx
      refine S_X11_ask_230 (by rw [r1']; omega) (fun g2 => S_X11_ask_251 (nx B2 hB2 (fun p p0 p1 => ?_) e111 e112)) (fun g2 => ?_)
      · rw [r1'] at g2
        rw [e350, h350 p p0 p1, cnt, cif_f (by omega)]
      · rw [r1'] at g2
        have f5 : FR (fun x y => x = 350) B2 (u2 B2 350 (whT D I (I 348 0) k) (B2 350 (whT D I (I 348 0) k) + 1)) := FR_u2 rfl
        have S := @S_X11_ask_238 X 10 kk k B2 R2
        rw [r1'] at S
        refine S hs ⟨by omega, by omega⟩ (S_X11_ask_251 (nx _ (hB2.fr (f5.mono (fun x y c => Or.inr (Or.inl c))) (f5 _ _ (by omega))) (fun p p0 p1 => ?_) (by rw [f5 _ _ (by omega)]; exact e111) (by rw [f5 _ _ (by omega)]; exact e112)))
        by_cases e : p = whT D I (I 348 0) k
        · rw [← e, u2_at, e350, h350 p p0 p1, cnt, cif_t e.symm]
        · rw [u2_j e, e350, h350 p p0 p1, cnt, cif_f (fun k => e k.symm)]
  have lp1 : ∀ (m : Nat) (q : Int) (B : PF), (D 339 1 - q).toNat < m → 0 ≤ q → q ≤ D 339 1 → MdQ I J C B → (∀ p, 0 ≤ p → p < q → B 350 p = 0) → B 306 111 = (if kk < 2 then -1 else 0) → B 306 112 = 1 →
      PN X 10 mX11_ask 183 [(2, 306), (0, kk), (0, q)] [] B R (fun v I' R' => AnQ D I (.inl (kk, C)) v.2 (I' 306 7) (I' 306 8) ∧ I' 306 1 = 0 ∧ FR mA J I' ∧ R' = R) := by
    intro m
    induction m with
    | zero => intro q B h; exact absurd h (Nat.not_lt_zero _)
    | succ m ih =>
      intro q B hm q0 q1 hB h350 h111 h112
      have n4 := n4 hB
      refine S_X11_ask_183 (d1 := 0) (by omega) (c_personMany hs) (fun z B1 R1 r => ?_)
      obtain ⟨(hz : z = _), rfl, rfl⟩ := r
      rw [n4] at hz
      rw [hz]
      refine S_X11_ask_188 (by omega) (by omega) (fun g => ?_) (fun g => ?_)
      · refine S_X11_ask_204 (lp2 34 0 B1 (by decide) (by decide) hB (fun p p0 p1 => ?_) h111 h112)
        rw [h350 p p0 (by omega)]; rfl
      · have f5 : FR (fun x y => x = 350) B1 (u2 B1 350 q 0) := FR_u2 rfl
        refine S_X11_ask_191 hs ⟨q0, by omega⟩ (ih (q + 1) _ (by omega) (by omega) (by omega) (hB.fr (f5.mono (fun x y c => Or.inr (Or.inl c))) (f5 _ _ (by omega))) (fun p p0 p1 => ?_) (by rw [f5 _ _ (by omega)]; exact h111) (by rw [f5 _ _ (by omega)]; exact h112))
        by_cases e : p = q
        · rw [e, u2_at]
        · rw [u2_j e]; exact h350 p p0 (by omega)
  have s173 : ∀ v1, v1 = (if kk < 2 then (-1 : Int) else 0) → PN X 10 mX11_ask 173 [(2, 306), (0, kk)] [(1, v1), (2, 306)] B R (fun v I' R' => AnQ D I (.inl (kk, C)) v.2 (I' 306 7) (I' 306 8) ∧ I' 306 1 = 0 ∧ FR mA J I' ∧ R' = R) := fun v1 hv => by
    have fu : FR (fun x y => x = 306 ∧ (y = 111 ∨ y = 112)) B (u2 (u2 B 306 111 v1) 306 112 1) := (FR_u2 ⟨rfl, Or.inl rfl⟩).tr (FR_u2 ⟨rfl, Or.inr rfl⟩)
    exact S_X11_ask_173 (lp1 _ 0 _ (Nat.lt_succ_self _) (by decide) (by omega) (hB.fr (fu.mono (fun x y c => Or.inr (Or.inr (Or.inl c)))) (fu _ _ (by omega))) (fun p p0 p1 => by omega) (by rw [u2_j (by decide), u2_at]; exact hv) u2_at)
  exact S_X11_ask_160 (by omega) (fun g => S_X11_ask_172 (s173 0 (by rw [if_neg (by omega)]))) (fun g => S_X11_ask_166 (s173 (-1) (by rw [if_pos g])))
