/-! ===== ask: the model reads, both ===== -/
def rM (x y : Int) : Prop := mY x y ∨ (x = 306 ∧ (y = 1 ∨ y = 3 ∨ y = 56))
theorem rM_A {x y : Int} (h : rM x y) : mA x y := by
  unfold rM mY mRd mQ at h
  rcases h with (⟨rfl, h⟩ | ⟨rfl, h⟩ | h | h) | ⟨rfl, h⟩
  · refine Or.inl (Or.inl ⟨rfl, ?_⟩)
    rcases h with rfl | rfl | rfl | rfl | rfl | rfl <;> decide
  · refine Or.inl (Or.inl ⟨rfl, ?_⟩)
    rcases h with rfl | rfl | rfl | rfl <;> decide
  · exact Or.inl (Or.inr (Or.inr (Or.inl h)))
  · exact Or.inl (Or.inr (Or.inr (Or.inr (Or.inl h))))
  · rcases h with rfl | rfl | rfl
    · exact Or.inr ⟨rfl, Or.inl rfl⟩
    · exact Or.inl (Or.inl ⟨rfl, by decide⟩)
    · exact Or.inl (Or.inl ⟨rfl, by decide⟩)
theorem c_mask {X : CX} {I J R D : PF} {t : Int → Int} {n : Int} {K : Nat} (hs : Shp R) (hT : ST D J) (h2 : J 342 = I 342) (h8 : J 348 = I 348) (hG : GD D) (hW : WD D) (hKG : KG D I) (hsd : sdR (J 306 78)) (hcw : CW J) (hn : J 306 1 = n) (hnr : 0 ≤ n ∧ n ≤ 1600) (ht : J 307 = t) (hb : ∀ j, 0 ≤ j → j < 1600 → 0 ≤ t j ∧ t j ≤ 255) (hK : n < K) :
    CN X 10 mX11_ask [(2, 306)] J R (fun v I' R' => AnQ D I (quR t n K) v.2 (I' 306 7) (I' 306 8) ∧ I' 306 1 = 0 ∧ FR mA J I' ∧ R' = R) := by
  refine callee_b (by decide +kernel) (Nat.le_of_ble_eq_true rfl) rfl ?_
  refine S_X11_ask_0 (by rw [hT.1]; decide) (fun _ => ?_) (fun g => absurd (hT.1.symm.trans g) (by decide))
  have S := @S_X11_ask_16 X 10 5 J R
  rw [hn] at S
  have fA : FR rM J (u2 (u2 (u2 (u2 (u2 (u2 (u2 (u2 (u2 (u2 (u2 J 306 3 n) 306 1 0) 306 2 0) 306 4 (-1)) 306 5 0) 306 6 (-1)) 306 56 2) 306 104 0) 306 106 0) 306 107 0) 306 108 0) := by
    refine ((((((((((FR_u2 (P := rM) ?_).tr (FR_u2 ?_)).tr (FR_u2 ?_)).tr (FR_u2 ?_)).tr (FR_u2 ?_)).tr (FR_u2 ?_)).tr (FR_u2 ?_)).tr (FR_u2 ?_)).tr (FR_u2 ?_)).tr (FR_u2 ?_)).tr (FR_u2 ?_)
    all_goals (unfold rM mY mRd mQ; omega)
  have a3 : (u2 (u2 (u2 (u2 (u2 (u2 (u2 (u2 (u2 (u2 (u2 J 306 3 n) 306 1 0) 306 2 0) 306 4 (-1)) 306 5 0) 306 6 (-1)) 306 56 2) 306 104 0) 306 106 0) 306 107 0) 306 108 0) 306 3 = n := by simp [u2]
  have a1 : (u2 (u2 (u2 (u2 (u2 (u2 (u2 (u2 (u2 (u2 (u2 J 306 3 n) 306 1 0) 306 2 0) 306 4 (-1)) 306 5 0) 306 6 (-1)) 306 56 2) 306 104 0) 306 106 0) 306 107 0) 306 108 0) 306 1 = 0 := by simp [u2]
  have a2 : (u2 (u2 (u2 (u2 (u2 (u2 (u2 (u2 (u2 (u2 (u2 J 306 3 n) 306 1 0) 306 2 0) 306 4 (-1)) 306 5 0) 306 6 (-1)) 306 56 2) 306 104 0) 306 106 0) 306 107 0) 306 108 0) 306 2 = 0 := by simp [u2]
  have a4 : (u2 (u2 (u2 (u2 (u2 (u2 (u2 (u2 (u2 (u2 (u2 J 306 3 n) 306 1 0) 306 2 0) 306 4 (-1)) 306 5 0) 306 6 (-1)) 306 56 2) 306 104 0) 306 106 0) 306 107 0) 306 108 0) 306 4 = -1 := by simp [u2]
  have a5 : (u2 (u2 (u2 (u2 (u2 (u2 (u2 (u2 (u2 (u2 (u2 J 306 3 n) 306 1 0) 306 2 0) 306 4 (-1)) 306 5 0) 306 6 (-1)) 306 56 2) 306 104 0) 306 106 0) 306 107 0) 306 108 0) 306 5 = 0 := by simp [u2]
  have a6 : (u2 (u2 (u2 (u2 (u2 (u2 (u2 (u2 (u2 (u2 (u2 J 306 3 n) 306 1 0) 306 2 0) 306 4 (-1)) 306 5 0) 306 6 (-1)) 306 56 2) 306 104 0) 306 106 0) 306 107 0) 306 108 0) 306 6 = -1 := by simp [u2]
  have a56 : (u2 (u2 (u2 (u2 (u2 (u2 (u2 (u2 (u2 (u2 (u2 J 306 3 n) 306 1 0) 306 2 0) 306 4 (-1)) 306 5 0) 306 6 (-1)) 306 56 2) 306 104 0) 306 106 0) 306 107 0) 306 108 0) 306 56 = 2 := by simp [u2]
  have a104 : (u2 (u2 (u2 (u2 (u2 (u2 (u2 (u2 (u2 (u2 (u2 J 306 3 n) 306 1 0) 306 2 0) 306 4 (-1)) 306 5 0) 306 6 (-1)) 306 56 2) 306 104 0) 306 106 0) 306 107 0) 306 108 0) 306 104 = 0 := by simp [u2]
  have a106 : (u2 (u2 (u2 (u2 (u2 (u2 (u2 (u2 (u2 (u2 (u2 J 306 3 n) 306 1 0) 306 2 0) 306 4 (-1)) 306 5 0) 306 6 (-1)) 306 56 2) 306 104 0) 306 106 0) 306 107 0) 306 108 0) 306 106 = 0 := by simp [u2]
  have a107 : (u2 (u2 (u2 (u2 (u2 (u2 (u2 (u2 (u2 (u2 (u2 J 306 3 n) 306 1 0) 306 2 0) 306 4 (-1)) 306 5 0) 306 6 (-1)) 306 56 2) 306 104 0) 306 106 0) 306 107 0) 306 108 0) 306 107 = 0 := by simp [u2]
  have a108 : (u2 (u2 (u2 (u2 (u2 (u2 (u2 (u2 (u2 (u2 (u2 J 306 3 n) 306 1 0) 306 2 0) 306 4 (-1)) 306 5 0) 306 6 (-1)) 306 56 2) 306 104 0) 306 106 0) 306 107 0) 306 108 0) 306 108 = 0 := by simp [u2]
  generalize u2 (u2 (u2 (u2 (u2 (u2 (u2 (u2 (u2 (u2 (u2 J 306 3 n) 306 1 0) 306 2 0) 306 4 (-1)) 306 5 0) 306 6 (-1)) 306 56 2) 306 104 0) 306 106 0) 306 107 0) 306 108 0 = A at *
  have rMn : ∀ x y, (x < 306 ∨ x = 307 ∨ (308 ≤ x ∧ x ≤ 378)) → ¬ rM x y := fun x y c d => by unfold rM mY mRd mQ at d; omega
  have cwA : CW A := hcw.rows (fun a ha => funext fun y => fA a y (rMn a y (by omega)))
  have hM : MSt t n (.inl (0, false)) A := ⟨⟨(funext fun y => fA _ _ (rMn _ _ (by omega))).trans ht, a3, hnr.1, hnr.2, hb, by rw [a2]; decide, by rw [a2]; exact hnr.1, by rw [a4]; decide, by rw [a5]; decide, fun _ => a6⟩, a5, by decide, by rw [a2]; decide, by rw [a2], (fun c => absurd c (by decide)), (fun _ => by rw [a4]; decide)⟩
  -- behind the reading
  have bad : ∀ (B : PF) (x1 : Int) (f : Int × Int), quR t n K = .inr f → MSt t n (.inr f) B → FR rM J B → B 306 1 = 0 → PN X 10 mX11_ask 133 [(2, 306), (0, x1)] [] B R (fun v I' R' => AnQ D I (quR t n K) v.2 (I' 306 7) (I' 306 8) ∧ I' 306 1 = 0 ∧ FR mA J I' ∧ R' = R) := fun B x1 f hq hm fB b1 => by
    obtain ⟨m1, m2, m3, m4⟩ := hm
    have e5 : (u2 (u2 B 306 7 (B 306 5)) 306 8 ((u2 B 306 7 (B 306 5)) 306 6)) 306 5 = f.1 := by rw [u2_j (by decide), u2_j (by decide)]; exact m2
    have r5 := m1.2.2.2.2.2.2.2.2.1
    rw [m2] at r5
    refine S_X11_ask_133 (by rw [e5]; exact r5) (fun g => absurd (e5.symm.trans g) m3) (fun _ => S_X11_ask_156 ⟨?_, ?_, ((fB.mono (fun x y c => rM_A c)).tr (FR_u2 (Or.inr ⟨rfl, Or.inr (Or.inl rfl)⟩))).tr (FR_u2 (Or.inr ⟨rfl, Or.inr (Or.inr rfl)⟩)), rfl⟩)
    · rw [hq]
      refine ⟨rfl, ?_, ?_⟩
      · rw [u2_j (by decide), u2_at]; exact m2
      · rw [u2_at, u2_j (by decide)]; exact m4
    · rw [u2_j (by decide), u2_j (by decide)]; exact b1
  have good : ∀ (B : PF) (y : Int × List Int) (q : Int × Bool), quR t n K = .inl y → MSt t n (.inl q) B → Stk B 379 y.2 (B 306 104) → (y.2.length : Int) ≤ 1600 → FR rM J B → B 306 1 = 0 → PN X 10 mX11_ask 133 [(2, 306), (0, y.1)] [] B R (fun v I' R' => AnQ D I (quR t n K) v.2 (I' 306 7) (I' 306 8) ∧ I' 306 1 = 0 ∧ FR mA J I' ∧ R' = R) := fun B y q hq hm hst hl fB b1 => by
    obtain ⟨m1, m2, -⟩ := hm
    have m6 : B 306 6 = -1 := m1.2.2.2.2.2.2.2.2.2 m2
    obtain ⟨y6, yt, ys⟩ := quR_in hq
    have e5 : (u2 (u2 B 306 7 (B 306 5)) 306 8 ((u2 B 306 7 (B 306 5)) 306 6)) 306 5 = 0 := by rw [u2_j (by decide), u2_j (by decide)]; exact m2
    have f8 : FR (fun x y => x = 306 ∧ (y = 7 ∨ y = 8)) B (u2 (u2 B 306 7 (B 306 5)) 306 8 ((u2 B 306 7 (B 306 5)) 306 6)) := (FR_u2 ⟨rfl, Or.inl rfl⟩).tr (FR_u2 ⟨rfl, Or.inr rfl⟩)
    have v7 : (u2 (u2 B 306 7 (B 306 5)) 306 8 ((u2 B 306 7 (B 306 5)) 306 6)) 306 7 = 0 := by rw [u2_j (by decide), u2_at]; exact m2
    have v8 : (u2 (u2 B 306 7 (B 306 5)) 306 8 ((u2 B 306 7 (B 306 5)) 306 6)) 306 8 = -1 := by rw [u2_at, u2_j (by decide)]; exact m6
    have hw : PW1 2 bd 64 y.2.reverse := by
      by_cases c : y.1 < 3
      · intro e s st h1 h2 h3
        obtain ⟨a, v, b, d⟩ := yt c e s st h1 h2 h3
        exact ⟨a, v, b, b01_bd d⟩
      · exact ys (by omega)
    have en : ∀ x y, (x = 342 ∨ x = 348 ∨ (x = 306 ∧ y = 78)) → (u2 (u2 B 306 7 (B 306 5)) 306 8 ((u2 B 306 7 (B 306 5)) 306 6)) x y = J x y := fun x y c => (f8 x y (by omega)).trans (fB x y (fun d => by unfold rM mY mRd mQ at d; omega))
    have hQ : MdQ I J y.2 (u2 (u2 B 306 7 (B 306 5)) 306 8 ((u2 B 306 7 (B 306 5)) 306 6)) := ⟨(funext fun y => en _ _ (by omega)).trans h2, (funext fun y => en _ _ (by omega)).trans h8, by rw [en _ _ (by omega)]; exact hsd, by rw [f8 306 104 (by omega)]; exact hst.row (funext fun y => f8 _ _ (by omega)), ⟨v7, v8, by rw [f8 _ _ (by omega)]; exact b1⟩, (fB.mono (fun x y c => rM_A c)).tr (f8.mono (fun x y c => Or.inr ⟨c.1, Or.inr c.2⟩))⟩
    rw [hq]
    exact S_X11_ask_133 (by rw [e5]; decide) (fun _ => mask_end hs hT hG hW hKG y6 hl hw yt hQ) (fun g => absurd e5 g)
  refine S (by omega) (c_qKind hs hM cwA) (fun z B R1 r => ?_)
  obtain ⟨hk, f1, rfl⟩ := r
  have fB : FR rM J B := fA.tr (f1.mono (fun x y c => Or.inl (Or.inl c)))
  have b1 : B 306 1 = 0 := (f1 _ _ (fun c => by unfold mRd at c; omega)).trans a1
  have kr := kQ_r t n
  by_cases k6 : kQ t n = 6
  · rw [if_pos k6] at hk
    obtain ⟨(hz : z = 5), hm⟩ := hk
    have b5 : B 306 5 = 1 := hm.2.1
    have hq : quR t n K = .inr (1, skp t n 0) := by unfold quR; rw [if_pos k6]
    rw [hz]
    exact S_X11_ask_78 (by rw [b5]; decide) (fun _ => S_X11_ask_98 (by rw [b5]; decide) (fun _ => S_X11_ask_109 (by rw [b5]; decide) (fun _ => bad B 5 _ hq hm fB b1) (fun g => absurd (b5.symm.trans g) (by decide))) (fun g => absurd (b5.symm.trans g) (by decide))) (fun g => absurd (b5.symm.trans g) (by decide))
  rw [if_neg k6] at hk
  obtain ⟨(hz : z = kQ t n), hm⟩ := hk
  rw [hz]
  have b5 : B 306 5 = 0 := hm.2.1
  have ek : ∀ y, (y = 56 ∨ y = 104 ∨ y = 106 ∨ y = 107 ∨ y = 108) → B 306 y = A 306 y := fun y c => f1 _ _ (fun d => by unfold mRd at d; omega)
  have q0 := hm.2.2.1
  have hY : YSt t n 2 [] (q1Q t n, [], [], 0) B := by
    refine ⟨hm, ⟨?_, ?_, ?_, (show ((([] ++ [] : List Int).length : Int) + (([] : List Int).length : Int)) ≤ 1650 from by decide), fun v h => absurd h List.not_mem_nil⟩, (ek _ (by omega)).trans a107, (ek _ (by omega)).trans a56, by decide, (show oc ([] ++ []) ≤ 0 from by decide), (show (0 : Int) ≤ 6 from by decide), by simpa using q0, cwA.rd f1⟩
    · show B 306 106 = 0; rw [ek _ (by omega)]; exact a106
    · show B 306 104 = 0; rw [ek _ (by omega)]; exact a104
    · show B 306 108 = 0; rw [ek _ (by omega)]; exact a108
  have hKq : (n - (q1Q t n).1).toNat < K := by omega
  -- behind the formula
  have s109 : ∀ (r : RD) (C : PF), (if kQ t n < 3 then tstF t n 2 K (q1Q t n) else sumF t n 2 K (q1Q t n)) = r → FRes t n 2 2 r C → FR mY B C → PN X 10 mX11_ask 109 [(2, 306), (0, kQ t n)] [] C R1 (fun v I' R' => AnQ D I (quR t n K) v.2 (I' 306 7) (I' 306 8) ∧ I' 306 1 = 0 ∧ FR mA J I' ∧ R' = R1) := fun r C hr hF fC => by
    have fJ : FR rM J C := fB.tr (fC.mono (fun x y c => Or.inl c))
    have c1 : C 306 1 = 0 := (fC _ _ (fun c => by unfold mY mRd mQ at c; omega)).trans b1
    have eq : quR t n K = quF t n (kQ t n) r := by rw [quR_q k6, hr]
    cases r with
    | inr f =>
      have hm := hF.1
      have c5 : C 306 5 ≠ 0 := hm.bad
      exact S_X11_ask_109 hm.r5 (fun _ => bad C _ f eq hm fJ c1) (fun g => absurd g c5)
    | inl y =>
      obtain ⟨hm, hK2, h56, hl, hcw2⟩ := hF
      have c5 : C 306 5 = 0 := hm.ok
      have yn : y.1.1 ≤ 1600 := by
        have a := hm.2.2.2.1
        have b := hm.1.2.2.2.2.2.2.1
        have c := hm.1.2.2.2.1
        omega
      refine S_X11_ask_109 (by rw [c5]; decide) (fun g => absurd c5 g) (fun _ => ?_)
      refine S_X11_ask_116 (d1 := 1) (by omega) (c_look2 hs hm) (fun z2 E R2 q => ?_)
      obtain ⟨(hz2 : z2 = _), hm2, e2, f2, rfl⟩ := q
      have fE : FR rM J E := fJ.tr (f2.mono (fun x y c => Or.inl (Or.inl c)))
      have e1 : E 306 1 = 0 := (f2 _ _ (fun c => by unfold mRd at c; omega)).trans c1
      have st : Stk E 379 y.2 (E 306 104) := by
        rw [f2 _ _ (fun c => by unfold mRd at c; omega)]
        exact hK2.2.1.row (funext fun y => f2 _ _ (fun c => by unfold mRd at c; omega))
      have lr : inR (nxt t n (.inl y.1)) := by
        show inR (lkv t n (skp t n y.1.1))
        unfold lkv inR
        have := hb (skp t n y.1.1)
        have := skp_ge t n y.1.1
        have := hm.2.2.1
        split <;> omega
      rw [hz2]
      refine S_X11_ask_120 lr (fun g => ?_) (fun g => ?_)
      · have hq : quR t n K = .inl (kQ t n, y.2) := by
          rw [eq]; show (if nxt t n (.inl y.1) = -1 then _ else _) = _; rw [if_pos g]
        exact good E (kQ t n, y.2) y.1 hq hm2 st (by show (y.2.length : Int) ≤ 1600; omega) fE e1
      · have hq : quR t n K = .inr (1, skp t n y.1.1) := by
          rw [eq]; show (if nxt t n (.inl y.1) = -1 then _ else _) = _; rw [if_neg g]
        refine S_X11_ask_124 (d1 := 1) (by omega) (c_failA hm2 (by decide)) (fun z3 G R3 q => ?_)
        obtain ⟨hm3, f3, rfl⟩ := q
        rw [e2] at hm3
        exact bad G _ _ hq hm3 (fE.tr (f3.mono (fun x y c => Or.inl (Or.inl c)))) ((f3 _ _ (fun c => by unfold mRd at c; omega)).trans e1)
  refine S_X11_ask_78 (by rw [b5]; decide) (fun g => absurd b5 g) (fun _ => S_X11_ask_86 (by omega) (fun g => ?_) (fun g => ?_))
  · refine S_X11_ask_98 (by rw [b5]; decide) (fun g2 => absurd b5 g2) (fun _ => ?_)
    refine S_X11_ask_105 (d1 := 7) (by omega) (c_qSums0 hs hK hY) (fun z2 C R2 q => ?_)
    obtain ⟨p1, p2, rfl⟩ := q
    rw [sumZ_F hKq] at p1
    exact s109 _ C (by rw [if_neg (by omega)]) p1 p2
  · refine S_X11_ask_91 (d1 := 9) (by omega) (c_qTest hs hK hY) (fun z2 C R2 q => ?_)
    obtain ⟨p1, p2, rfl⟩ := q
    rw [testY_F hKq] at p1
    exact S_X11_ask_95 (s109 _ C (by rw [if_pos g]) p1 p2)
