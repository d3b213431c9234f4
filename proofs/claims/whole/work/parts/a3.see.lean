/-! ===== see ===== -/
theorem Sim.rt {I J R : PF} {k : Int} (h : Sim I R) (f : FR (fun x y => ((x = 66 ∨ x = 308) ∧ y = k) ∨ ((x = 64 ∨ x = 306) ∧ y = 1)) I J) (e66 : J 66 k = I 66 k + 1) (e308 : J 308 k = I 308 k + 1) (e64 : J 64 1 = 0) (e306 : J 306 1 = 0) : Sim J R := by
  obtain ⟨p, o, hp⟩ := h.plc
  obtain ⟨a1, a2, a3, a4, a5⟩ := h.2.2.1
  have e7 : J 307 = I 307 := funext fun y => f _ _ (fun d => by omega)
  have e65 : J 65 = I 65 := funext fun y => f _ _ (fun d => by omega)
  refine h.up hp (f.mono (fun x y c => by unfold scA smC; omega)) FR.rf ⟨by rw [e65, e7]; exact a1, by rw [e64, e306], by rw [e306]; decide, by rw [e306]; decide, by rw [e7]; exact a5⟩ (h.2.2.2.1.cg (f.mono (fun x y c => by omega)) (fun j => ?_))
  have r := h.2.2.2.1.1
  by_cases c : j = k
  · rw [c, e66, e308, r]
  · rw [f 66 j (fun d => by omega), f 308 j (fun d => by omega)]; exact r j
theorem Tld.sn {D : PF} {p o : Int} {I I' : PF} (h : Tld D p I) (hp : p = 72 ∧ o = 91 ∨ p = 91 ∧ o = 72) (f : FR (fun x y => (x = 64 ∧ (y = 1 ∨ y = 17)) ∨ (x = 306 ∧ (y = 1 ∨ y = 73)) ∨ x = 304 ∨ x = 353) I I') (hs : Seen D I') : Tld D p I' := by
  obtain ⟨h1, h2, h3, h4, h5, h6, h7, h8, h9⟩ := h
  have hD := h1.2.1
  have e : ∀ x y, ¬ ((x = 64 ∧ (y = 1 ∨ y = 17)) ∨ (x = 306 ∧ (y = 1 ∨ y = 73)) ∨ x = 304 ∨ x = 353) → I' x y = I x y := f
  have e8 : ∀ y, I' 348 y = I 348 y := fun y => e _ _ (by omega)
  have e2 : ∀ y, 24 ≤ y → I' 342 y = I 342 y := fun y hy => e _ _ (by omega)
  exact ⟨h1, h2, h3.fr (fun x x0 x1 => funext fun y => e x y (by omega)) h1, fun k k0 k1 => by rw [e _ _ (by omega)]; exact h4 k k0 k1, h5.cg h1 (fun y c => e _ _ (by omega)) (fun y c => e _ _ (by omega)) (fun y c => e _ _ (by omega)) (fun y c => e _ _ (by omega)) e2 (fun y c => e _ _ (by omega)) (fun x y c c2 => e _ _ (by omega)) (fun y c => e _ _ (by omega)), h6.cg ⟨by omega, by omega⟩ (fun y _ _ => e8 y) e2, (h7.cg ⟨by omega, by omega⟩ (fun y _ _ => e8 y) e2).fr ⟨by omega, by omega⟩ (fun x y c => e x y (by unfold stC at c; omega)), h8.cg ⟨by omega, by omega⟩ (fun y _ _ => e8 y) e2 (fun y => e _ _ (by omega)) (fun x y x0 x1 => e _ _ (by omega)) (e _ _ (by omega)) (e _ _ (by omega)), hs⟩
def lawsT (t : Int → Int) (n l : Int) : Prop := (1 ≤ n ∧ n ≤ 7) ∧ ∀ k, 0 ≤ k → k < n → t k < l ∨ t k = 255
theorem c_areLaws {X : CX} {I R : PF} {p o n : Int} (hs : Shp R) (hp : Plc R p o) (hn : inR n) (h5 : inR (I p 5)) (ht : ∀ j, 0 ≤ j → j < 1600 → 0 ≤ I 65 j ∧ I 65 j ≤ 255) : CN X 0 mX10_areLaws [(2, 64), (0, n)] I R (fun v I' R' => v.2 = bi (lawsT (I 65) n (I p 5)) ∧ I' = I ∧ R' = R) := by
  refine callee_b (by decide +kernel) (Nat.le_of_ble_eq_true rfl) rfl ?_
  have kp := (plc_k hp).1
  refine S_X10_areLaws_0 hn (fun g => S_X10_areLaws_11 ⟨(bi_f (fun c => by have := c.1; omega)).symm, rfl, rfl⟩) (fun g => S_X10_areLaws_5 hn (fun g2 => ?_) (fun g2 => S_X10_areLaws_11 ⟨(bi_f (fun c => by have := c.1; omega)).symm, rfl, rfl⟩))
  have lp : ∀ (m : Nat) (k : Int), (n - k).toNat < m → 0 ≤ k → k ≤ n → (∀ j, 0 ≤ j → j < k → I 65 j < I p 5 ∨ I 65 j = 255) → PN X 0 mX10_areLaws 15 [(2, 64), (0, n), (0, k)] [] I R (fun v I' R' => v.2 = bi (lawsT (I 65) n (I p 5)) ∧ I' = I ∧ R' = R) := by
    intro m
    induction m with
    | zero => intro k h; exact absurd h (Nat.not_lt_zero _)
    | succ m ih =>
      intro k hm k0 k1 hj
      refine S_X10_areLaws_15 (by omega) hn (fun g3 => S_X10_areLaws_56 ⟨(bi_t ⟨⟨g, g2⟩, fun j j0 j1 => hj j j0 (by omega)⟩).symm, rfl, rfl⟩) (fun g3 => ?_)
      have tk := ht k k0 (by omega)
      have go : I 65 k < I p 5 ∨ I 65 k = 255 → PN X 0 mX10_areLaws 50 [(2, 64), (0, n), (0, k)] [] I R (fun v I' R' => v.2 = bi (lawsT (I 65) n (I p 5)) ∧ I' = I ∧ R' = R) := fun c => by
        refine S_X10_areLaws_50 (ih (k + 1) (by omega) (by omega) (by omega) (fun j j0 j1 => ?_))
        by_cases e : j = k
        · rw [e]; exact c
        · exact hj j j0 (by omega)
      refine S_X10_areLaws_20 hs (by omega) hp.1 kp (by omega) h5 (fun g4 => go (Or.inl g4)) (fun g4 => ?_)
      refine S_X10_areLaws_36 hs (by omega) (by omega) (fun g5 => go (Or.inr g5)) (fun g5 => S_X10_areLaws_48 ⟨(bi_f (fun c => ?_)).symm, rfl, rfl⟩)
      rcases c.2 k k0 g3 with c | c
      · omega
      · exact g5 c
  exact S_X10_areLaws_13 (lp _ 0 (Nat.lt_succ_self _) (by decide) (by omega) (fun j j0 j1 => by omega))
theorem c_lawMany {X : CX} {I R : PF} (hs : Shp R) : CN X 0 mX11_lawMany [(2, 306)] I R (fun v I' R' => v.2 = I 339 3 ∧ I' = I ∧ R' = R) := callee_b (by decide +kernel) (Nat.le_of_ble_eq_true rfl) rfl (S_X11_lawMany_0 hs ⟨rfl, rfl, rfl⟩)
/-- the model sees -/
theorem c_msee {X : CX} {I R : PF} {n : Int} (hs : Shp R) (hn : I 306 1 = n) (hnr : 0 ≤ n ∧ n ≤ 1600) (h55 : I 306 55 = 0 ∨ I 306 55 = 1) (hno : 0 ≤ I 348 0 ∧ I 348 0 ≤ 999) (h3 : 0 ≤ I 339 3 ∧ I 339 3 ≤ 6) (ht : ∀ j, 0 ≤ j → j < 1600 → 0 ≤ I 307 j ∧ I 307 j ≤ 255) :
    CN X 2 mX11_see [(2, 306)] I R (fun v I' R' => ((I 306 55 = 1 ∧ lawsT (I 307) n (I 339 3) ∧ I 348 0 + n ≤ 999) → v.2 = n ∧ I' 306 1 = 0 ∧ I' 306 73 = n ∧ (∀ j, 0 ≤ j → j < n → I' 353 j = I 307 j) ∧ FR (fun x y => (x = 306 ∧ (y = 1 ∨ y = 73)) ∨ x = 353) I I') ∧
      (¬ (I 306 55 = 1 ∧ lawsT (I 307) n (I 339 3) ∧ I 348 0 + n ≤ 999) → v.2 = -1 ∧ I' = u2 (u2 I 306 1 0) 308 1 (I 308 1 + 1)) ∧ R' = R) := by
  refine callee_b (by decide +kernel) (Nat.le_of_ble_eq_true rfl) rfl ?_
  have fJ : FR (fun x y => x = 306 ∧ y = 1) I (u2 I 306 1 0) := FR_u2 ⟨rfl, rfl⟩
  have jv : (u2 I 306 1 0) 306 1 = 0 := u2_at
  have j308 : (u2 I 306 1 0) 308 1 = I 308 1 := u2_o (by decide)
  -- the end
  have bad : ¬ (I 306 55 = 1 ∧ lawsT (I 307) n (I 339 3) ∧ I 348 0 + n ≤ 999) → PN X 2 mX11_see 101 [(2, 306)] [] (u2 I 306 1 0) R (fun v I' R' => ((I 306 55 = 1 ∧ lawsT (I 307) n (I 339 3) ∧ I 348 0 + n ≤ 999) → v.2 = n ∧ I' 306 1 = 0 ∧ I' 306 73 = n ∧ (∀ j, 0 ≤ j → j < n → I' 353 j = I 307 j) ∧ FR (fun x y => (x = 306 ∧ (y = 1 ∨ y = 73)) ∨ x = 353) I I') ∧
      (¬ (I 306 55 = 1 ∧ lawsT (I 307) n (I 339 3) ∧ I 348 0 + n ≤ 999) → v.2 = -1 ∧ I' = u2 (u2 I 306 1 0) 308 1 (I 308 1 + 1)) ∧ R' = R) := fun c => by
    refine S_X11_see_101 hs ⟨fun k => absurd k c, fun _ => ⟨rfl, ?_⟩, rfl⟩
    rw [j308]
  have good : (I 306 55 = 1 ∧ lawsT (I 307) n (I 339 3) ∧ I 348 0 + n ≤ 999) → PN X 2 mX11_see 113 [(2, 306), (0, n)] [] (u2 I 306 1 0) R (fun v I' R' => ((I 306 55 = 1 ∧ lawsT (I 307) n (I 339 3) ∧ I 348 0 + n ≤ 999) → v.2 = n ∧ I' 306 1 = 0 ∧ I' 306 73 = n ∧ (∀ j, 0 ≤ j → j < n → I' 353 j = I 307 j) ∧ FR (fun x y => (x = 306 ∧ (y = 1 ∨ y = 73)) ∨ x = 353) I I') ∧
      (¬ (I 306 55 = 1 ∧ lawsT (I 307) n (I 339 3) ∧ I 348 0 + n ≤ 999) → v.2 = -1 ∧ I' = u2 (u2 I 306 1 0) 308 1 (I 308 1 + 1)) ∧ R' = R) := fun c => by
    have n7 := c.2.1.1
    have lp : ∀ (m : Nat) (k : Int) (J : PF), (n - k).toNat < m → 0 ≤ k → k ≤ n → (∀ j, 0 ≤ j → j < k → J 353 j = I 307 j) → FR (fun x y => x = 353) (u2 I 306 1 0) J → PN X 2 mX11_see 115 [(2, 306), (0, n), (9, 0), (0, k)] [] J R (fun v I' R' => ((I 306 55 = 1 ∧ lawsT (I 307) n (I 339 3) ∧ I 348 0 + n ≤ 999) → v.2 = n ∧ I' 306 1 = 0 ∧ I' 306 73 = n ∧ (∀ j, 0 ≤ j → j < n → I' 353 j = I 307 j) ∧ FR (fun x y => (x = 306 ∧ (y = 1 ∨ y = 73)) ∨ x = 353) I I') ∧
        (¬ (I 306 55 = 1 ∧ lawsT (I 307) n (I 339 3) ∧ I 348 0 + n ≤ 999) → v.2 = -1 ∧ I' = u2 (u2 I 306 1 0) 308 1 (I 308 1 + 1)) ∧ R' = R) := by
      intro m
      induction m with
      | zero => intro k J h; exact absurd h (Nat.not_lt_zero _)
      | succ m ih =>
        intro k J hm k0 k1 hj hf
        refine S_X11_see_115 (by omega) (by omega) (fun g => ?_) (fun g => ?_)
        · refine S_X11_see_138 ⟨fun _ => ⟨rfl, ?_, u2_at, fun j j0 j1 => ?_, ((fJ.mono (fun x y c => Or.inl ⟨c.1, Or.inl c.2⟩)).tr (hf.mono (fun x y c => Or.inr c))).tr (FR_u2 (Or.inl ⟨rfl, Or.inr rfl⟩))⟩, fun k => absurd c k, rfl⟩
          · rw [u2_j (by decide), hf _ _ (by decide)]; exact jv
          · rw [u2_o (by decide)]; exact hj j j0 (by omega)
        · refine S_X11_see_120 hs (by omega) (by omega) (ih (k + 1) _ (by omega) (by omega) (by omega) (fun j j0 j1 => ?_) (hf.tr (FR_u2 rfl)))
          by_cases e : j = k
          · rw [e, u2_at, hf _ _ (by omega), fJ _ _ (fun d => by omega)]
          · rw [u2_j e]; exact hj j j0 (by omega)
    exact S_X11_see_113 (lp _ 0 _ (Nat.lt_succ_self _) (by decide) (by omega) (fun j j0 j1 => by omega) FR.rf)
  have t307 : (u2 I 306 1 0) 307 = I 307 := funext fun y => fJ _ _ (fun d => by omega)
  have t3 : (u2 I 306 1 0) 339 3 = I 339 3 := fJ _ _ (fun d => by omega)
  -- the flag
  have scan : ∀ w, (w = 1 ∧ I 306 55 = 1 ∧ (1 ≤ n ∧ n ≤ 7) ∧ I 348 0 + n ≤ 999 ∨ w = 0 ∧ ¬ (I 306 55 = 1 ∧ (1 ≤ n ∧ n ≤ 7) ∧ I 348 0 + n ≤ 999)) → PN X 2 mX11_see 48 [(2, 306), (0, n)] [(0, w)] (u2 I 306 1 0) R (fun v I' R' => ((I 306 55 = 1 ∧ lawsT (I 307) n (I 339 3) ∧ I 348 0 + n ≤ 999) → v.2 = n ∧ I' 306 1 = 0 ∧ I' 306 73 = n ∧ (∀ j, 0 ≤ j → j < n → I' 353 j = I 307 j) ∧ FR (fun x y => (x = 306 ∧ (y = 1 ∨ y = 73)) ∨ x = 353) I I') ∧
        (¬ (I 306 55 = 1 ∧ lawsT (I 307) n (I 339 3) ∧ I 348 0 + n ≤ 999) → v.2 = -1 ∧ I' = u2 (u2 I 306 1 0) 308 1 (I 308 1 + 1)) ∧ R' = R) := fun w hw => by
    have lp : ∀ (m : Nat) (k w : Int), (n - k).toNat < m → 0 ≤ k → k ≤ 1600 → (w = 1 ∧ (I 306 55 = 1 ∧ (1 ≤ n ∧ n ≤ 7) ∧ I 348 0 + n ≤ 999) ∧ (k ≤ n ∧ ∀ j, 0 ≤ j → j < k → I 307 j < I 339 3 ∨ I 307 j = 255) ∨ w = 0 ∧ ¬ (I 306 55 = 1 ∧ lawsT (I 307) n (I 339 3) ∧ I 348 0 + n ≤ 999)) → PN X 2 mX11_see 51 [(2, 306), (0, n), (0, w), (0, k)] [] (u2 I 306 1 0) R (fun v I' R' => ((I 306 55 = 1 ∧ lawsT (I 307) n (I 339 3) ∧ I 348 0 + n ≤ 999) → v.2 = n ∧ I' 306 1 = 0 ∧ I' 306 73 = n ∧ (∀ j, 0 ≤ j → j < n → I' 353 j = I 307 j) ∧ FR (fun x y => (x = 306 ∧ (y = 1 ∨ y = 73)) ∨ x = 353) I I') ∧
        (¬ (I 306 55 = 1 ∧ lawsT (I 307) n (I 339 3) ∧ I 348 0 + n ≤ 999) → v.2 = -1 ∧ I' = u2 (u2 I 306 1 0) 308 1 (I 308 1 + 1)) ∧ R' = R) := by
      intro m
      induction m with
      | zero => intro k w h; exact absurd h (Nat.not_lt_zero _)
      | succ m ih =>
        intro k w hm k0 k16 hw
        have w01 : w = 0 ∨ w = 1 := by rcases hw with c | c; exact Or.inr c.1; exact Or.inl c.1
        have fin : (n ≤ k ∨ w = 0) → PN X 2 mX11_see 97 [(2, 306), (0, n), (0, w)] [] (u2 I 306 1 0) R (fun v I' R' => ((I 306 55 = 1 ∧ lawsT (I 307) n (I 339 3) ∧ I 348 0 + n ≤ 999) → v.2 = n ∧ I' 306 1 = 0 ∧ I' 306 73 = n ∧ (∀ j, 0 ≤ j → j < n → I' 353 j = I 307 j) ∧ FR (fun x y => (x = 306 ∧ (y = 1 ∨ y = 73)) ∨ x = 353) I I') ∧
            (¬ (I 306 55 = 1 ∧ lawsT (I 307) n (I 339 3) ∧ I 348 0 + n ≤ 999) → v.2 = -1 ∧ I' = u2 (u2 I 306 1 0) 308 1 (I 308 1 + 1)) ∧ R' = R) := fun hk => by
          refine S_X11_see_97 (by omega) (fun g => good ?_) (fun g => bad ?_)
          · rcases hw with ⟨c1, c2, c3, c4⟩ | ⟨c1, -⟩
            · exact ⟨c2.1, ⟨c2.2.1, fun j j0 j1 => c4 j j0 (by omega)⟩, c2.2.2⟩
            · exact absurd c1 g
          · rcases hw with ⟨c1, -⟩ | ⟨-, c2⟩
            · omega
            · exact c2
        refine S_X11_see_51 (by omega) (by omega) (fun g => fin (Or.inl g)) (fun g => ?_)
        refine S_X11_see_56 (by omega) (fun g2 => fin (Or.inr g2)) (fun g2 => ?_)
        obtain ⟨c1, c2, c3, c4⟩ : w = 1 ∧ (I 306 55 = 1 ∧ (1 ≤ n ∧ n ≤ 7) ∧ I 348 0 + n ≤ 999) ∧ (k ≤ n ∧ ∀ j, 0 ≤ j → j < k → I 307 j < I 339 3 ∨ I 307 j = 255) := by
          rcases hw with c | c
          · exact c
          · exact absurd c.1 g2
        have tk := ht k k0 (by omega)
        have yes : I 307 k < I 339 3 ∨ I 307 k = 255 → PN X 2 mX11_see 85 [(2, 306), (0, n), (9, 0), (0, k)] [] (u2 I 306 1 0) R (fun v I' R' => ((I 306 55 = 1 ∧ lawsT (I 307) n (I 339 3) ∧ I 348 0 + n ≤ 999) → v.2 = n ∧ I' 306 1 = 0 ∧ I' 306 73 = n ∧ (∀ j, 0 ≤ j → j < n → I' 353 j = I 307 j) ∧ FR (fun x y => (x = 306 ∧ (y = 1 ∨ y = 73)) ∨ x = 353) I I') ∧
            (¬ (I 306 55 = 1 ∧ lawsT (I 307) n (I 339 3) ∧ I 348 0 + n ≤ 999) → v.2 = -1 ∧ I' = u2 (u2 I 306 1 0) 308 1 (I 308 1 + 1)) ∧ R' = R) := fun c => by
          refine S_X11_see_85 (S_X11_see_90 (ih (k + 1) 1 (by omega) (by omega) (by omega) (Or.inl ⟨rfl, c2, by omega, fun j j0 j1 => ?_⟩)))
          by_cases e : j = k
          · rw [e]; exact c
          · exact c4 j j0 (by omega)
        refine S_X11_see_60 hs (by omega) (by rw [t307]; omega) (fun g3 => yes (Or.inr (by rw [t307] at g3; exact g3))) (fun g3 => ?_)
        rw [t307] at g3
        refine S_X11_see_72 (d1 := 0) hs (by omega) (by omega) (c_lawMany hs) (fun z I3 R3 q => ?_)
        obtain ⟨(hz : z = _), rfl, rfl⟩ := q
        rw [t3] at hz
        refine S_X11_see_82 (by rw [t307]; omega) (by omega) (fun g4 => ?_) (fun g4 => yes (Or.inl (by rw [t307] at g4; omega)))
        rw [t307] at g4
        refine S_X11_see_89 (S_X11_see_90 (ih (k + 1) 0 (by omega) (by omega) (by omega) (Or.inr ⟨rfl, fun c => ?_⟩)))
        rcases c.2.1.2 k k0 g with c | c
        · omega
        · exact g3 c
    refine S_X11_see_48 (lp (n.toNat + 1) 0 w (by omega) (by decide) (by decide) ?_)
    rcases hw with ⟨c1, c2⟩ | ⟨c1, c2⟩
    · exact Or.inl ⟨c1, c2, by omega, fun j j0 j1 => by omega⟩
    · exact Or.inr ⟨c1, fun c => c2 ⟨c.1, c.2.1.1, c.2.2⟩⟩
  have j55 : (u2 I 306 1 0) 306 55 = I 306 55 := fJ _ _ (fun d => by omega)
  have j0 : (u2 I 306 1 0) 348 0 = I 348 0 := fJ _ _ (fun d => by omega)
  refine S_X11_see_0 (by rw [j55]; omega) (fun g => ?_) (fun g => ?_)
  · rw [hn, j55] at *
    exact S_X11_see_47 (scan 0 (Or.inr ⟨rfl, fun c => by omega⟩))
  · rw [j55] at g
    rw [hn]
    refine S_X11_see_17 (d1 := 1) (by omega) (by omega) (c_isIn (by unfold inR; omega) (by decide) (by decide)) (fun z I3 R3 q => ?_)
    obtain ⟨(hz : z = _), rfl, rfl⟩ := q
    have b := bi_r (1 ≤ n ∧ n ≤ 7)
    refine S_X11_see_26 (by omega) (fun g2 => S_X11_see_47 (scan 0 (Or.inr ⟨rfl, fun c => bi_0 (hz.symm.trans g2) c.2.1⟩))) (fun g2 => ?_)
    have c2 := bi_1 (c := 1 ≤ n ∧ n ≤ 7) (by rw [← hz]; exact g2)
    refine S_X11_see_29 hs (by rw [j0]; omega) (fun g3 => S_X11_see_47 (scan 0 (Or.inr ⟨rfl, fun c => by omega⟩))) (fun g3 => S_X11_see_43 (scan 1 (Or.inl ⟨rfl, by omega, c2, by omega⟩)))
theorem c_xsee {X : CX} {I R : PF} {p o n : Int} (hs : Shp R) (hp : Plc R p o) (hv : Vw p I) (hn : I 64 1 = n) (hnr : 0 ≤ n ∧ n ≤ 1600) (ht : ∀ j, 0 ≤ j → j < 1600 → 0 ≤ I 65 j ∧ I 65 j ≤ 255) :
    CN X 2 mX10_see [(2, 64)] I R (fun v I' R' => ((0 < I p 0 ∧ lawsT (I 65) n (I p 5) ∧ I 111 0 + n ≤ 999) → v.2 = n ∧ I' 64 1 = 0 ∧ I' 64 17 = n ∧ (∀ j, 0 ≤ j → j < n → I' 304 j = I 65 j) ∧ FR (fun x y => (x = 64 ∧ (y = 1 ∨ y = 17)) ∨ x = 304) I I') ∧
      (¬ (0 < I p 0 ∧ lawsT (I 65) n (I p 5) ∧ I 111 0 + n ≤ 999) → v.2 = -1 ∧ I' = u2 (u2 I 64 1 0) 66 1 (I 66 1 + 1)) ∧ R' = R) := by
  have hpp := sq_o (plc_k hp).1
  obtain ⟨⟨a1, a2, a3, a4⟩, ⟨b1, b2, b3, b4⟩, ⟨c1, c2, c3⟩, -, -, -, rr, -⟩ := hv
  refine callee_b (by decide +kernel) (Nat.le_of_ble_eq_true rfl) rfl ?_
  refine S_X10_see_0 (d1 := 0) (by omega) c_takeTape (fun z3 I3 R3 q => ?_)
  obtain ⟨(hz : z3 = _), e3, rfl⟩ := q
  rw [hn] at hz
  rw [hz]
  have fJ : FR (fun x y => x = 64 ∧ y = 1) I I3 := by rw [e3]; exact FR_u2 ⟨rfl, rfl⟩
  have jv : I3 64 1 = 0 := by rw [e3]; exact u2_at
  have n0 : I3 p 0 = I p 0 := fJ _ _ (fun d => by omega)
  have n5 : I3 p 5 = I p 5 := fJ _ _ (fun d => by omega)
  have n1 : I3 111 0 = I 111 0 := fJ _ _ (fun d => by omega)
  have n65 : I3 65 = I 65 := funext fun y => fJ _ _ (fun d => by omega)
  have n66 : I3 66 1 = I 66 1 := fJ _ _ (fun d => by omega)
  have bad : ¬ (0 < I p 0 ∧ lawsT (I 65) n (I p 5) ∧ I 111 0 + n ≤ 999) → PN X 2 mX10_see 35 [(2, 64)] [] I3 R3 (fun v I' R' => ((0 < I p 0 ∧ lawsT (I 65) n (I p 5) ∧ I 111 0 + n ≤ 999) → v.2 = n ∧ I' 64 1 = 0 ∧ I' 64 17 = n ∧ (∀ j, 0 ≤ j → j < n → I' 304 j = I 65 j) ∧ FR (fun x y => (x = 64 ∧ (y = 1 ∨ y = 17)) ∨ x = 304) I I') ∧
      (¬ (0 < I p 0 ∧ lawsT (I 65) n (I p 5) ∧ I 111 0 + n ≤ 999) → v.2 = -1 ∧ I' = u2 (u2 I 64 1 0) 66 1 (I 66 1 + 1)) ∧ R' = R3) := fun c => S_X10_see_35 hs ⟨fun k => absurd k c, fun _ => ⟨rfl, by rw [n66, e3]⟩, rfl⟩
  refine S_X10_see_4 (d1 := 0) (by omega) (c_isToldX hp (by rw [n0]; unfold inR; omega)) (fun z4 I4 R4 q => ?_)
  obtain ⟨(hz4 : z4 = _), rfl, rfl⟩ := q
  rw [n0] at hz4
  have b := bi_r (0 < I p 0)
  refine S_X10_see_9 (by omega) (fun g => bad (fun c => bi_0 (hz4.symm.trans g) c.1)) (fun g => ?_)
  have t0 := bi_1 (c := 0 < I p 0) (by rw [← hz4]; exact g)
  refine S_X10_see_12 (d1 := 0) (by omega) (c_areLaws hs hp (by unfold inR; omega) (by rw [n5]; unfold inR; omega) (by rw [n65]; exact ht)) (fun z5 I5 R5 q => ?_)
  obtain ⟨(hz5 : z5 = _), rfl, rfl⟩ := q
  rw [n65, n5] at hz5
  have b5 := bi_r (lawsT (I 65) n (I p 5))
  refine S_X10_see_17 (by omega) (fun g2 => bad (fun c => bi_0 (hz5.symm.trans g2) c.2.1)) (fun g2 => ?_)
  have t1 := bi_1 (c := lawsT (I 65) n (I p 5)) (by rw [← hz5]; exact g2)
  have t7 := t1.1
  refine S_X10_see_20 hs (by rw [n1]; omega) (fun g3 => ?_) (fun g3 => bad (fun c => by rw [n1] at g3; omega))
  rw [n1] at g3
  refine S_X10_see_47 hs (by omega) (by omega) ⟨fun _ => ⟨rfl, ?_, u2_at, fun j j0 j1 => ?_, ?_⟩, fun c => absurd ⟨t0, t1, g3⟩ c, rfl⟩
  · rw [u2_j (by decide)]
    exact (if_neg (by omega)).trans jv
  · rw [u2_o (by decide)]
    refine (if_pos ⟨rfl, j0, by omega⟩).trans ?_
    rw [n65]
    exact congrArg (I 65) (by omega)
  · refine FR.tr (J := fun x j => if x = 304 ∧ 0 ≤ j ∧ j < 0 + n then I5 65 (0 + (j - 0)) else I5 x j) (fun x y c => ?_) (FR_u2 (Or.inl ⟨rfl, Or.inr rfl⟩))
    exact (if_neg (by omega)).trans (fJ _ _ (by omega))
theorem b_see {X : CX} {I R : PF} (h : Sim I R) : Both X 2 2 mX10_see mX11_see [] I R := by
  obtain ⟨hs, hcw, hta, hm, p, o, hp, hT⟩ := id h
  obtain ⟨q1, q2, q3, q4, q5⟩ := id hta
  have hv := h.vw hp
  have hpp := sq_o (plc_k hp).1
  obtain ⟨⟨a1, a2, a3, a4⟩, ⟨b1, b2, b3, b4⟩, ⟨c1, c2, c3⟩, -, -, r55, rr, -⟩ := id hv
  refine Callee.mono (c_xsee hs hp hv q2 ⟨q3, q4⟩ (by rw [q1]; exact q5)) (fun v I1 R1 q => ?_)
  obtain ⟨w1, w2, rfl⟩ := q
  by_cases G : 0 < I p 0 ∧ lawsT (I 65) (I 306 1) (I p 5) ∧ I 111 0 + I 306 1 ≤ 999
  · obtain ⟨v1, v2, v3, v4, v5⟩ := w1 G
    have e : ∀ x y, ¬ ((x = 64 ∧ (y = 1 ∨ y = 17)) ∨ x = 304) → I1 x y = I x y := v5
    have e7 : I1 307 = I 307 := funext fun y => e _ _ (by omega)
    have G' : I1 306 55 = 1 ∧ lawsT (I1 307) (I 306 1) (I1 339 3) ∧ I1 348 0 + I 306 1 ≤ 999 := by
      rw [e 306 55 (by omega), e7, e 339 3 (by omega), e 348 0 (by omega), ← a3, ← b1, ← q1]
      exact ⟨by omega, G.2⟩
    refine Callee.mono (c_msee hs (e 306 1 (by omega)) ⟨q3, q4⟩ (by rw [e _ _ (by omega)]; omega) (by rw [e _ _ (by omega)]; omega) (by rw [e _ _ (by omega)]; omega) (by rw [e7]; exact q5)) (fun v' I2 R2 q => ?_)
    obtain ⟨y1, -, rfl⟩ := q
    obtain ⟨x1, x2, x3, x4, x5⟩ := y1 G'
    refine ⟨x1.trans v1.symm, ?_⟩
    have f : FR (fun x y => (x = 64 ∧ (y = 1 ∨ y = 17)) ∨ (x = 306 ∧ (y = 1 ∨ y = 73)) ∨ x = 304 ∨ x = 353) I I2 := (v5.mono (fun x y c => by omega)).tr (x5.mono (fun x y c => by omega))
    have o64 : ∀ y, I2 64 y = I1 64 y := fun y => x5 _ _ (by omega)
    have o307 : I2 307 = I 307 := funext fun y => f _ _ (fun d => by omega)
    have o65 : I2 65 = I 65 := funext fun y => f _ _ (fun d => by omega)
    refine ⟨hs, ⟨hcw.1.rows (fun a ha => funext fun y => f a y (fun c => by omega)), fun x hx => by rw [f x 7 (fun c => by omega)]; exact hcw.2 x hx⟩, ⟨by rw [o65, o307]; exact q1, by rw [o64, v2, x2], by rw [x2]; decide, by rw [x2]; decide, by rw [o307]; exact q5⟩, hm.cg (f.mono (fun x y c => by omega)) (fun j => ?_), p, o, hp, Or.inr ?_⟩
    · rw [f 66 j (fun d => by omega), f 308 j (fun d => by omega)]; exact hm.1 j
    · rcases hT with hT | ⟨D, hT⟩
      · have := hT.1.1; omega
      · refine ⟨D, hT.sn hp.2.2 f ⟨by rw [o64, v3, x3], by rw [x3]; exact q3, by rw [x3]; have := G.2.1.1; omega, fun k k0 k1 => ?_⟩⟩
        rw [x3] at k1
        have k4 : I2 304 k = I 307 k := by rw [x5 _ _ (by omega), v4 k k0 k1, q1]
        have k3 : I2 353 k = I 307 k := by rw [x4 k k0 k1, e7]
        rw [k4, k3]
        refine ⟨rfl, ?_⟩
        have l3 : I p 5 = D 339 0 := a3.trans (by have := hT.2.2.2.2.1.2.1 0 (by decide) (by decide); simpa using this)
        have := q5 k k0 (by omega)
        rcases G.2.1.2 k k0 k1 with c | c
        · rw [q1, l3] at c; exact Or.inr ⟨this.1, c⟩
        · rw [q1] at c; exact Or.inl c
  · obtain ⟨v1, v2⟩ := w2 G
    have f1 : FR (fun x y => (x = 64 ∧ y = 1) ∨ (x = 66 ∧ y = 1)) I I1 := by rw [v2]; exact (FR_u2 (Or.inl ⟨rfl, rfl⟩)).tr (FR_u2 (Or.inr ⟨rfl, rfl⟩))
    have e : ∀ x y, ¬ ((x = 64 ∧ y = 1) ∨ (x = 66 ∧ y = 1)) → I1 x y = I x y := f1
    have e7 : I1 307 = I 307 := funext fun y => e _ _ (by omega)
    have G' : ¬ (I1 306 55 = 1 ∧ lawsT (I1 307) (I 306 1) (I1 339 3) ∧ I1 348 0 + I 306 1 ≤ 999) := by
      rw [e 306 55 (by omega), e7, e 339 3 (by omega), e 348 0 (by omega), ← a3, ← b1, ← q1]
      exact fun c => G ⟨by omega, c.2⟩
    refine Callee.mono (c_msee hs (e 306 1 (by omega)) ⟨q3, q4⟩ (by rw [e _ _ (by omega)]; omega) (by rw [e _ _ (by omega)]; omega) (by rw [e _ _ (by omega)]; omega) (by rw [e7]; exact q5)) (fun v' I2 R2 q => ?_)
    obtain ⟨-, y2, rfl⟩ := q
    obtain ⟨x1, x2⟩ := y2 G'
    refine ⟨x1.trans v1.symm, ?_⟩
    have f2 : FR (fun x y => (x = 306 ∧ y = 1) ∨ (x = 308 ∧ y = 1)) I1 I2 := by rw [x2]; exact (FR_u2 (Or.inl ⟨rfl, rfl⟩)).tr (FR_u2 (Or.inr ⟨rfl, rfl⟩))
    refine h.rt (k := 1) ((f1.mono (fun x y c => by omega)).tr (f2.mono (fun x y c => by omega))) ?_ ?_ ?_ ?_
    · rw [f2 _ _ (by omega), v2, u2_at]
    · rw [x2, u2_at, e _ _ (by omega)]
    · rw [f2 _ _ (by omega), v2, u2_o (by decide), u2_at]
    · rw [x2, u2_o (by decide), u2_at]
