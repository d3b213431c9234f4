/-! ===== the class's scan goes on ===== -/
theorem c6_r {f : Int → Int} {L : Int} (h : ∀ i, 0 ≤ i → i < L → 97 ≤ f i ∧ f i ≤ 122) : 0 ≤ c6 f L ∧ c6 f L < 387420489 := by
  have h0 := lt6_r h (k := 0) (by decide)
  have h1 := lt6_r h (k := 1) (by decide)
  have h2 := lt6_r h (k := 2) (by decide)
  have h3 := lt6_r h (k := 3) (by decide)
  have h4 := lt6_r h (k := 4) (by decide)
  have h5 := lt6_r h (k := 5) (by decide)
  unfold c6
  omega
theorem knd_eq (t : Int → Int) (n p : Int) (b : Bool) : knd t n (p, b) = if (kn0 t n (skp t n p) = 1 ∨ kn0 t n (skp t n p) = 2) ∧ b = true ∧ skp t n p = p then 4 else kn0 t n (skp t n p) := by
  unfold knd kn0
  by_cases g1 : skp t n p < n
  · simp only [if_pos g1]
    by_cases g2 : isL (t (skp t n p)) = true
    · simp only [if_pos g2]
      by_cases g3 : b = true ∧ skp t n p = p
      · rw [if_pos g3, if_pos ⟨Or.inl trivial, g3⟩]
      · rw [if_neg g3, if_neg (fun c => g3 c.2)]
    · simp only [if_neg g2]
      by_cases g4 : isD (t (skp t n p)) = true
      · simp only [if_pos g4]
        by_cases g3 : b = true ∧ skp t n p = p
        · rw [if_pos g3, if_pos ⟨Or.inr trivial, g3⟩]
        · rw [if_neg g3, if_neg (fun c => g3 c.2)]
      · simp only [if_neg g4]
        rw [if_neg (fun c => by omega)]
  · simp only [if_neg g1]
    rw [if_neg (fun c => by omega)]
theorem DT.fr {t : Int → Int} {n : Int} {I K : PF} (h : DT t n I) (g : FR (fun x y => x = 67 ∧ 2 ≤ y) I K) : DT t n K := ⟨by rw [← h.1]; funext j; exact g 65 j (fun c => by omega), by rw [g 67 1 (fun c => by omega)]; exact h.2.1, h.2.2⟩
theorem c_advance {X : CX} {I R : PF} {t : Int → Int} {n p : Int} (hs : Shp R) (hD : DT t n I) (hp : I 67 4 = p) (h0 : 0 ≤ p ∧ p ≤ n) (hk : inR (I 67 2)) :
    CN X 1 mX5_advance [(2, 67)] I R (fun _ I' R' => Tok t n (p, decide (I 67 2 = 1 ∨ I 67 2 = 2)) I' R' ∧ I' 67 7 = I 67 3 ∧ FR sS I I' ∧ FR sR R R') := by
  refine callee_b (by decide +kernel) (Nat.le_of_ble_eq_true rfl) rfl ?_
  have hD' := hD
  obtain ⟨h65, hn, hn0, hn1, hT⟩ := hD'
  have sl := skp_le (t := t) h0.2
  have sg := skp_ge t n p
  have main : ∀ w : Int, (w = 0 ∨ w = 1) → (w ≠ 0 ↔ (I 67 2 = 1 ∨ I 67 2 = 2)) → PN X 1 mX5_advance 26 [(2, 67), (0, p)] [(0, w)] I R (fun _ I' R' => Tok t n (p, decide (I 67 2 = 1 ∨ I 67 2 = 2)) I' R' ∧ I' 67 7 = I 67 3 ∧ FR sS I I' ∧ FR sR R R') := fun w hw1 hw2 => by
    have fin : ∀ K R', DT t n K → K 67 3 = skp t n p → K 67 4 = tto t n (skp t n p) → K 67 5 = tva t n (skp t n p) → K 67 2 = kn0 t n (skp t n p) → R' 67 6 = twd t n (skp t n p) → K 67 7 = I 67 3 → FR sS I K → FR sR R R' → PN X 1 mX5_advance 495 [(2, 67), (0, p), (0, w)] [] K R' (fun _ I' R' => Tok t n (p, decide (I 67 2 = 1 ∨ I 67 2 = 2)) I' R' ∧ I' 67 7 = I 67 3 ∧ FR sS I I' ∧ FR sR R R') := fun K R' k1 k2 k3 k4 k5 k6 k7 k8 k9 => by
      have kr : 0 ≤ kn0 t n (skp t n p) ∧ kn0 t n (skp t n p) ≤ 3 := by unfold kn0; repeat' split <;> omega
      have plain : ¬ ((kn0 t n (skp t n p) = 1 ∨ kn0 t n (skp t n p) = 2) ∧ decide (I 67 2 = 1 ∨ I 67 2 = 2) = true ∧ skp t n p = p) → PN X 1 mX5_advance 528 [] [] K R' (fun _ I' R' => Tok t n (p, decide (I 67 2 = 1 ∨ I 67 2 = 2)) I' R' ∧ I' 67 7 = I 67 3 ∧ FR sS I I' ∧ FR sR R R') := fun c =>
        S_X5_advance_528 ⟨⟨k1, h0.1, h0.2, k2, by rw [knd_eq, if_neg c]; exact k5, k3, k4, k6⟩, k7, k8, k9⟩
      refine S_X5_advance_495 (by omega) (fun g => plain (fun c => by have := of_decide_eq_true c.2.1; have := hw2.mpr this; omega)) (fun g => ?_)
      have g' := hw2.mp g
      refine S_X5_advance_499 (by omega) (by omega) (fun g2 => plain (fun c => g2 (k2.trans c.2.2))) (fun g2 => ?_)
      have glue : (kn0 t n (skp t n p) = 1 ∨ kn0 t n (skp t n p) = 2) → PN X 1 mX5_advance 523 [(2, 67)] [] K R' (fun _ I' R' => Tok t n (p, decide (I 67 2 = 1 ∨ I 67 2 = 2)) I' R' ∧ I' 67 7 = I 67 3 ∧ FR sS I I' ∧ FR sR R R') := fun c => by
        have ff : FR (fun x y => x = 67 ∧ 2 ≤ y) K (u2 K 67 2 4) := FR_u2 ⟨rfl, by decide⟩
        refine S_X5_advance_523 (S_X5_advance_528 ⟨⟨k1.fr ff, h0.1, h0.2, ?_, ?_, ?_, ?_, k6⟩, ?_, k8.tr (FR_u2 ⟨rfl, by decide⟩), k9⟩)
        · rw [u2_j (by decide)]; exact k2
        · rw [u2_at, knd_eq, if_pos ⟨c, decide_eq_true g', k2.symm.trans g2⟩]
        · rw [u2_j (by decide)]; exact k3
        · rw [u2_j (by decide)]; exact k4
        · rw [u2_j (by decide)]; exact k7
      refine S_X5_advance_507 (by omega) (fun g3 => glue (by omega)) (fun g3 => ?_)
      exact S_X5_advance_515 (by omega) (fun g4 => plain (fun c => by omega)) (fun g4 => glue (by omega))
    have rest : ∀ J : PF, DT t n J → J 67 3 = skp t n p → J 67 7 = I 67 3 → FR sS I J → PN X 1 mX5_advance 95 [(2, 67), (0, p), (0, w)] [] J R (fun _ I' R' => Tok t n (p, decide (I 67 2 = 1 ∨ I 67 2 = 2)) I' R' ∧ I' 67 7 = I 67 3 ∧ FR sS I I' ∧ FR sR R R') := fun J j1 j2 j3 j4 => by
      have j1' := j1
      obtain ⟨b1, b2, -, -, -⟩ := j1'
      -- the character, then what it begins
      have go : ∀ c kd0 : Int, c = lkv t n (skp t n p) → (kd0 = if skp t n p < n then 3 else 0) → ∀ J1 : PF, DT t n J1 → J1 67 3 = skp t n p → J1 67 7 = I 67 3 → FR sS I J1 → J1 67 4 = min (skp t n p + 1) n → PN X 1 mX5_advance 154 [(2, 67), (0, p), (0, w), (0, c)] [(0, kd0), (2, 67)] J1 R (fun _ I' R' => Tok t n (p, decide (I 67 2 = 1 ∨ I 67 2 = 2)) I' R' ∧ I' 67 7 = I 67 3 ∧ FR sS I I' ∧ FR sR R R') := fun c kd0 hc hkd J1 i1 i2 i3 i4 i5 => by
        have i1' := i1
        obtain ⟨b1, b2, -, -, -⟩ := i1'
        have fw : FR (fun x y => x = 67 ∧ (y = 2 ∨ y = 5)) J1 (u2 (u2 J1 67 2 kd0) 67 5 c) := FR.tr (FR_u2 ⟨rfl, Or.inl rfl⟩) (FR_u2 ⟨rfl, Or.inr rfl⟩)
        have fs : FR sS I (u2 (u2 J1 67 2 kd0) 67 5 c) := i4.tr (fw.mono (fun x y c => ⟨c.1, by omega, by omega⟩))
        have fd : DT t n (u2 (u2 J1 67 2 kd0) 67 5 c) := i1.fr (fw.mono (fun x y c => ⟨c.1, by omega⟩))
        have f3 : (u2 (u2 J1 67 2 kd0) 67 5 c) 67 3 = skp t n p := (fw 67 3 (fun c => by omega)).trans i2
        have f7 : (u2 (u2 J1 67 2 kd0) 67 5 c) 67 7 = I 67 3 := (fw 67 7 (fun c => by omega)).trans i3
        have f4 : (u2 (u2 J1 67 2 kd0) 67 5 c) 67 4 = min (skp t n p + 1) n := (fw 67 4 (fun c => by omega)).trans i5
        have f2 : (u2 (u2 J1 67 2 kd0) 67 5 c) 67 2 = kd0 := by rw [u2_j (by decide), u2_at]
        have f5 : (u2 (u2 J1 67 2 kd0) 67 5 c) 67 5 = c := u2_at
        have fr : FR sR R (u2 R 67 6 1) := FR_u2 ⟨rfl, rfl⟩
        have r6 : (u2 R 67 6 1) 67 6 = 1 := u2_at
        have hs2 : Shp (u2 R 67 6 1) := hs.fr (sR_mR fr)
        have cr : -1 ≤ c ∧ c ≤ 255 ∧ (c = -1 ↔ ¬ skp t n p < n) ∧ (skp t n p < n → c = t (skp t n p)) := by
          rw [hc]
          unfold lkv
          by_cases g : skp t n p < n
          · rw [if_pos g]; have := hT (skp t n p) (by omega) (by omega); exact ⟨by omega, by omega, ⟨fun _ => by omega, fun h => absurd g h⟩, fun _ => rfl⟩
          · rw [if_neg g]; exact ⟨by decide, by decide, ⟨fun _ => g, fun _ => rfl⟩, fun h => absurd h g⟩
        obtain ⟨cr1, cr2, cr3, cr4⟩ := cr
        generalize hZ : u2 (u2 J1 67 2 kd0) 67 5 c = Z at fw fs fd f3 f7 f4 f2 f5
        generalize hY : u2 R 67 6 1 = Y at fr r6 hs2
        -- neither a letter nor a digit
        have other : ¬ (97 ≤ c ∧ c ≤ 122) → ¬ (48 ≤ c ∧ c ≤ 57) → PN X 1 mX5_advance 495 [(2, 67), (0, p), (0, w)] [] Z Y (fun _ I' R' => Tok t n (p, decide (I 67 2 = 1 ∨ I 67 2 = 2)) I' R' ∧ I' 67 7 = I 67 3 ∧ FR sS I I' ∧ FR sR R R') := fun o1 o2 => by
          refine fin Z Y fd f3 ?_ ?_ ?_ ?_ f7 fs fr
          all_goals by_cases g : skp t n p < n
          all_goals try (have e := cr4 g; have l1 : ¬ isL (t (skp t n p)) = true := fun h => o1 (by have := isL_iff.mp h; omega); have l2 : ¬ isD (t (skp t n p)) = true := fun h => o2 (by have := isD_iff.mp h; omega))
          · rw [f4, tto, if_pos g, if_neg l1, if_neg l2]; omega
          · rw [f4, tto, if_neg g]; omega
          · rw [f5, tva, if_pos g, if_neg l1, if_neg l2]; exact e
          · rw [f5, tva, if_neg g]; exact cr3.mpr g
          · rw [f2, hkd, kn0, if_pos g, if_pos g, if_neg l1, if_neg l2]
          · rw [f2, hkd, kn0, if_neg g, if_neg g]
          · rw [r6, twd, if_pos g, if_neg l1]
          · rw [r6, twd, if_neg g]
        have at374 : ¬ (97 ≤ c ∧ c ≤ 122) → PN X 1 mX5_advance 374 [(2, 67), (0, p), (0, w), (0, c)] [] Z Y (fun _ I' R' => Tok t n (p, decide (I 67 2 = 1 ∨ I 67 2 = 2)) I' R' ∧ I' 67 7 = I 67 3 ∧ FR sS I I' ∧ FR sR R R') := fun o1 => by
          refine S_X5_advance_374 (by omega) (fun g => other o1 (by omega)) (fun g => ?_)
          refine S_X5_advance_380 (by omega) (fun g2 => other o1 (by omega)) (fun g2 => ?_)
          have g' : skp t n p < n := by
            have := cr3
            by_cases h : skp t n p < n
            · exact h
            · have := cr3.mpr h; omega
          have e := cr4 g'
          have l1 : ¬ isL (t (skp t n p)) = true := fun h => o1 (by have := isL_iff.mp h; omega)
          have l2 : isD (t (skp t n p)) = true := isD_iff.mpr (by omega)
          have fu : FR (fun x y => x = 67 ∧ (y = 2 ∨ y = 5)) Z (u2 (u2 Z 67 2 2) 67 5 (c - 48)) := FR.tr (FR_u2 ⟨rfl, Or.inl rfl⟩) (FR_u2 ⟨rfl, Or.inr rfl⟩)
          refine S_X5_advance_386 ?_
          have u2' : (u2 (u2 Z 67 2 2) 67 5 (c - 48)) 67 2 = 2 := by rw [u2_j (by decide), u2_at]
          have u5' : (u2 (u2 Z 67 2 2) 67 5 (c - 48)) 67 5 = c - 48 := u2_at
          generalize u2 (u2 Z 67 2 2) 67 5 (c - 48) = W at fu u2' u5'
          have wd : DT t n W := fd.fr (fu.mono (fun x y c => ⟨c.1, by omega⟩))
          have w4 : W 67 4 = skp t n p + 1 := (fu 67 4 (fun c => by omega)).trans (by rw [f4]; omega)
          have w3 : W 67 3 = skp t n p := (fu 67 3 (fun c => by omega)).trans f3
          refine adv_num hs2 hn1 hT (by omega) _ W (Nat.lt_succ_self _) wd.1 wd.2.1 w3 (by omega) (by omega) ?_ (fun V v1 v2 v3 => ?_)
          · rw [w4, u5', show (min (skp t n p + 1 - skp t n p) 4).toNat = 0 + 1 by omega, dv, dv]
            show c - 48 = 10 * 0 + t (skp t n p + ((0 : Nat) : Int)) - 48
            rw [show skp t n p + ((0 : Nat) : Int) = skp t n p by omega]; omega
          · rw [w4, ← run_y g' l2] at v1
            refine fin V Y (wd.fr (v3.mono (fun x y c => ⟨c.1, by omega⟩))) ((v3 67 3 (fun c => by omega)).trans w3) ?_ ?_ ?_ ?_ ((v3 67 7 (fun c => by omega)).trans ((fu 67 7 (fun c => by omega)).trans f7)) ((fs.tr (fu.mono (fun x y c => ⟨c.1, by omega, by omega⟩))).tr (v3.mono (fun x y c => ⟨c.1, by omega, by omega⟩))) fr
            · rw [v1, tto, if_pos g', if_neg l1, if_pos l2]
            · rw [v2, v1, tva, if_pos g', if_neg l1, if_pos l2]
            · rw [v3 67 2 (fun c => by omega), u2', kn0, if_pos g', if_neg l1, if_pos l2]
            · rw [r6, twd, if_pos g', if_neg l1]
        refine S_X5_advance_154 (by omega) (fun g => ?_) (fun g => ?_)
        · rw [hZ, hY]; exact at374 (by omega)
        rw [hZ, hY]
        refine S_X5_advance_175 (by omega) (fun g2 => at374 (by omega)) (fun g2 => ?_)
        have g' : skp t n p < n := by
          by_cases h : skp t n p < n
          · exact h
          · have := cr3.mpr h; omega
        have e := cr4 g'
        have l1 : isL (t (skp t n p)) = true := isL_iff.mpr (by omega)
        refine S_X5_advance_181 ?_
        have fu : FR (fun x y => x = 67 ∧ (y = 2 ∨ y = 4 ∨ y = 5)) Z (u2 Z 67 2 1) := FR_u2 ⟨rfl, Or.inl rfl⟩
        have w4 : (u2 Z 67 2 1) 67 4 = skp t n p + 1 := by rw [u2_j (by decide), f4]; omega
        have u2' : (u2 Z 67 2 1) 67 2 = 1 := u2_at
        generalize u2 Z 67 2 1 = W at fu u2' w4
        have wd : DT t n W := fd.fr (fu.mono (fun x y c => ⟨c.1, by omega⟩))
        have rl := run_le (f := isL) (t := t) (n := n) (p := skp t n p) (by omega)
        have rg := run_ge isL t n (skp t n p)
        refine adv_let hs2 _ W (Nat.lt_succ_self _) (by omega) (by rw [wd.2.1]; omega) (by rw [wd.2.1]; exact hn1) (by rw [wd.1]; exact hT) ?_
        rw [wd.1, wd.2.1, w4, ← run_y g' l1]
        have fu2 : FR (fun x y => x = 67 ∧ (y = 2 ∨ y = 4 ∨ y = 5)) Z (u2 (u2 W 67 4 (run isL t n (skp t n p))) 67 5 0) := fu.tr (FR.tr (FR_u2 ⟨rfl, Or.inr (Or.inl rfl)⟩) (FR_u2 ⟨rfl, Or.inr (Or.inr rfl)⟩))
        have e2 : (u2 (u2 W 67 4 (run isL t n (skp t n p))) 67 5 0) 67 2 = 1 := by rw [u2_j (by decide), u2_j (by decide)]; exact u2'
        have e4 : (u2 (u2 W 67 4 (run isL t n (skp t n p))) 67 5 0) 67 4 = run isL t n (skp t n p) := by rw [u2_j (by decide), u2_at]
        have e5 : (u2 (u2 W 67 4 (run isL t n (skp t n p))) 67 5 0) 67 5 = 0 := u2_at
        refine S_X5_advance_238 ?_
        generalize u2 (u2 W 67 4 (run isL t n (skp t n p))) 67 5 0 = V at fu2 e2 e4 e5
        have vd : DT t n V := fd.fr (fu2.mono (fun x y c => ⟨c.1, by omega⟩))
        have e3 : V 67 3 = skp t n p := (fu2 67 3 (fun c => by omega)).trans f3
        have q4 : V 67 4 = skp t n p + (run isL t n (skp t n p) - skp t n p) := by omega
        refine adv_val rfl hs2 vd.1 e3 q4 (by omega) (by decide) ?_
        rw [e5]
        refine adv_val (t := t) (a := skp t n p) (L := run isL t n (skp t n p) - skp t n p) rfl hs2 (by rw [u2_row (by decide)]; exact vd.1) (by rw [u2_j (by decide)]; exact e3) (by rw [u2_j (by decide)]; exact q4) (by omega) (by decide) ?_
        rw [u2_at, u2_u2]
        refine adv_val (t := t) (a := skp t n p) (L := run isL t n (skp t n p) - skp t n p) rfl hs2 (by rw [u2_row (by decide)]; exact vd.1) (by rw [u2_j (by decide)]; exact e3) (by rw [u2_j (by decide)]; exact q4) (by omega) (by decide) ?_
        rw [u2_at, u2_u2]
        refine adv_val (t := t) (a := skp t n p) (L := run isL t n (skp t n p) - skp t n p) rfl hs2 (by rw [u2_row (by decide)]; exact vd.1) (by rw [u2_j (by decide)]; exact e3) (by rw [u2_j (by decide)]; exact q4) (by omega) (by decide) ?_
        rw [u2_at, u2_u2]
        refine adv_val (t := t) (a := skp t n p) (L := run isL t n (skp t n p) - skp t n p) rfl hs2 (by rw [u2_row (by decide)]; exact vd.1) (by rw [u2_j (by decide)]; exact e3) (by rw [u2_j (by decide)]; exact q4) (by omega) (by decide) ?_
        rw [u2_at, u2_u2]
        refine adv_val (t := t) (a := skp t n p) (L := run isL t n (skp t n p) - skp t n p) (x5 := 6) rfl hs2 (by rw [u2_row (by decide)]; exact vd.1) (by rw [u2_j (by decide)]; exact e3) (by rw [u2_j (by decide)]; exact q4) (by omega) (by decide) ?_
        rw [u2_at, u2_u2]
        have ev : 27 * (27 * (27 * (27 * (27 * (27 * 0 + lt6 (fun i => t (skp t n p + i)) (run isL t n (skp t n p) - skp t n p) 0) + lt6 (fun i => t (skp t n p + i)) (run isL t n (skp t n p) - skp t n p) 1) + lt6 (fun i => t (skp t n p + i)) (run isL t n (skp t n p) - skp t n p) 2) + lt6 (fun i => t (skp t n p + i)) (run isL t n (skp t n p) - skp t n p) 3) + lt6 (fun i => t (skp t n p + i)) (run isL t n (skp t n p) - skp t n p) 4) + lt6 (fun i => t (skp t n p + i)) (run isL t n (skp t n p) - skp t n p) 5 = c6 (fun i => t (skp t n p + i)) (run isL t n (skp t n p) - skp t n p) := by
          unfold c6; omega
        have ex : ∀ x : Int, (x = c6 (fun i => t (skp t n p + i)) (run isL t n (skp t n p) - skp t n p)) → PN X 1 mX5_advance 246 [(2, 67), (0, p), (0, w), (9, 0), (0, 6)] [] (u2 V 67 5 x) Y (fun _ I' R' => Tok t n (p, decide (I 67 2 = 1 ∨ I 67 2 = 2)) I' R' ∧ I' 67 7 = I 67 3 ∧ FR sS I I' ∧ FR sR R R') := fun x hx => by
          have hv : tva t n (skp t n p) = x := by rw [hx, tva, if_pos g', if_pos l1]
          have xr : 0 ≤ x ∧ x < 387420489 := by
            rw [hx]
            refine c6_r (fun i i0 i1 => ?_)
            exact isL_iff.mp (run_in (f := isL) (t := t) (n := n) (p := skp t n p) (j := skp t n p + i) (by omega) (by omega)).2
          have fx : FR (fun x y => x = 67 ∧ (y = 2 ∨ y = 4 ∨ y = 5)) Z (u2 V 67 5 x) := fu2.tr (FR_u2 ⟨rfl, Or.inr (Or.inr rfl)⟩)
          have x2 : (u2 V 67 5 x) 67 2 = 1 := by rw [u2_j (by decide)]; exact e2
          have x4 : (u2 V 67 5 x) 67 4 = run isL t n (skp t n p) := by rw [u2_j (by decide)]; exact e4
          have x5 : (u2 V 67 5 x) 67 5 = x := u2_at
          generalize u2 V 67 5 x = T at fx x2 x4 x5
          have td : DT t n T := fd.fr (fx.mono (fun x y c => ⟨c.1, by omega⟩))
          have t3 : T 67 3 = skp t n p := (fx 67 3 (fun c => by omega)).trans f3
          have done : ∀ R', R' 67 6 = twd t n (skp t n p) → FR sR R R' → PN X 1 mX5_advance 371 [(2, 67), (0, p), (0, w)] [] T R' (fun _ I' R' => Tok t n (p, decide (I 67 2 = 1 ∨ I 67 2 = 2)) I' R' ∧ I' 67 7 = I 67 3 ∧ FR sS I I' ∧ FR sR R R') := fun R' z1 z2 => by
            refine S_X5_advance_371 (fin T R' td t3 ?_ ?_ ?_ z1 ((fx 67 7 (fun c => by omega)).trans f7) (fs.tr (fx.mono (fun x y c => ⟨c.1, by omega, by omega⟩))) z2)
            · rw [x4, tto, if_pos g', if_pos l1]
            · rw [x5, hv]
            · rw [x2, kn0, if_pos g', if_pos l1]
          refine S_X5_advance_246 (by omega) (fun _ => ?_) (fun g => by omega)
          refine S_X5_advance_306 ?_
          by_cases gl : run isL t n (skp t n p) - skp t n p ≤ 6
          · refine adv_word (k := 38) (x := 0) (v := x) x5 (by omega) (by omega) (by omega) Y (by decide) (by decide) r6 (fun R' z1 z2 => done R' ?_ (fr.tr z2))
            rw [z1, twd, if_pos g', if_pos l1, if_pos gl, hv]
          · refine S_X5_advance_309 (by omega) (fun g => by omega) (fun _ => ?_)
            refine S_X5_advance_318 (by omega) (fun _ => done Y ?_ fr) (fun g => by omega)
            rw [r6, twd, if_pos g', if_pos l1, if_neg gl]
        exact ex _ ev
      have step : ∀ c : Int, c = lkv t n (skp t n p) → PN X 1 mX5_advance 119 [(2, 67), (0, p), (0, w)] [(0, c)] J R (fun _ I' R' => Tok t n (p, decide (I 67 2 = 1 ∨ I 67 2 = 2)) I' R' ∧ I' 67 7 = I 67 3 ∧ FR sS I I' ∧ FR sR R R') := fun c hc => by
        refine S_X5_advance_119 (d1 := 0) (by omega) (c_min (by omega) (by omega)) (fun z I2 R2 q => ?_)
        obtain ⟨(hz : z = _), rfl, rfl⟩ := q
        have ff : FR (fun x y => x = 67 ∧ y = 4) I2 (u2 I2 67 4 z) := FR_u2 ⟨rfl, rfl⟩
        have g1 : (u2 I2 67 4 z) 67 1 = n := (ff 67 1 (fun c => by omega)).trans b2
        have g3 : (u2 I2 67 4 z) 67 3 = skp t n p := (ff 67 3 (fun c => by omega)).trans j2
        have gd : DT t n (u2 I2 67 4 z) := j1.fr (ff.mono (fun x y c => ⟨c.1, by omega⟩))
        have g7 : (u2 I2 67 4 z) 67 7 = I 67 3 := (ff 67 7 (fun c => by omega)).trans j3
        have gf : FR sS I (u2 I2 67 4 z) := j4.tr (ff.mono (fun x y c => ⟨c.1, by omega, by omega⟩))
        have g4 : (u2 I2 67 4 z) 67 4 = min (skp t n p + 1) n := by rw [u2_at, hz, j2, b2]
        refine S_X5_advance_134 (by omega) (by omega) (fun g => ?_) (fun g => ?_)
        · exact S_X5_advance_153 (go c 0 hc (by rw [if_neg (by omega)]) _ gd g3 g7 gf g4)
        · exact S_X5_advance_149 (go c 3 hc (by rw [if_pos (by omega)]) _ gd g3 g7 gf g4)
      refine S_X5_advance_95 (by omega) (by omega) (fun g => S_X5_advance_118 (step _ ?_)) (fun g => S_X5_advance_106 hs (by omega) (step _ ?_))
      · unfold lkv; rw [if_neg (by omega)]
      · unfold lkv; rw [if_pos (by omega), b1, j2]
    refine S_X5_advance_26 ?_
    have f0 : FR sS I (u2 (u2 I 67 7 (I 67 3)) 67 3 ((u2 I 67 7 (I 67 3)) 67 4)) := FR.tr (FR_u2 ⟨rfl, by decide⟩) (FR_u2 ⟨rfl, by decide⟩)
    have a3 : (u2 (u2 I 67 7 (I 67 3)) 67 3 ((u2 I 67 7 (I 67 3)) 67 4)) 67 3 = p := by rw [u2_at, u2_j (by decide)]; exact hp
    have a7 : (u2 (u2 I 67 7 (I 67 3)) 67 3 ((u2 I 67 7 (I 67 3)) 67 4)) 67 7 = I 67 3 := by rw [u2_j (by decide), u2_at]
    generalize u2 (u2 I 67 7 (I 67 3)) 67 3 ((u2 I 67 7 (I 67 3)) 67 4) = J at f0 a3 a7
    have jd : DT t n J := hD.fr (f0.mono (fun x y c => ⟨c.1, c.2.1⟩))
    refine adv_skip hs _ J (Nat.lt_succ_self _) (by omega) (by rw [jd.2.1]; omega) (by rw [jd.2.1]; exact hn1) (by rw [jd.1]; exact hT) ?_
    rw [jd.1, jd.2.1, a3]
    have f1 : FR sS J (u2 J 67 3 (skp t n p)) := FR_u2 ⟨rfl, by decide⟩
    exact rest _ (jd.fr (f1.mono (fun x y c => ⟨c.1, c.2.1⟩))) u2_at (by rw [u2_j (by decide)]; exact a7) (f0.tr f1)
  refine S_X5_advance_0 hk (fun g => ?_) (fun g => ?_)
  · rw [hp]; exact S_X5_advance_21 (main 1 (Or.inr rfl) ⟨fun _ => Or.inl g, fun _ => by decide⟩)
  · rw [hp]
    refine S_X5_advance_13 hk (fun g2 => ?_) (fun g2 => ?_)
    · exact S_X5_advance_25 (main 0 (Or.inl rfl) ⟨fun h => absurd rfl h, fun h => by omega⟩)
    · exact S_X5_advance_21 (main 1 (Or.inr rfl) ⟨fun _ => Or.inr g2, fun _ => by decide⟩)
