/-! ===== the class and the model side by side ===== -/
def Tap (I : PF) : Prop := I 65 = I 307 ∧ I 64 1 = I 306 1 ∧ 0 ≤ I 306 1 ∧ I 306 1 ≤ 1600 ∧ ∀ j, 0 ≤ j → j < 1600 → 0 ≤ I 307 j ∧ I 307 j ≤ 255
/-- refusals, faults, the seed, the image, what is told of parts last -/
def Sml (I : PF) : Prop := (∀ j, I 66 j = I 308 j) ∧ (I 64 3 = I 306 7 ∧ I 64 4 = I 306 8) ∧ (I 303 0 = I 306 78 ∧ sdR (I 306 78)) ∧ (I 64 19 = I 306 114 ∧ 0 ≤ I 306 114 ∧ I 306 114 ≤ 41 ∧ ∀ k, 0 ≤ k → k < I 306 114 → I 305 k = I 382 k) ∧ I 306 72 = 0 ∧ bd (I 131 5) ∧ (0 ≤ I 136 4 ∧ I 136 4 < 20) ∧ 0 ≤ I 306 77 ∧ I 306 77 < 20
def Plc (R : PF) (p o : Int) : Prop := R 64 8 = p ∧ R 64 9 = o ∧ (p = 72 ∧ o = 91 ∨ p = 91 ∧ o = 72)
def Seen (D I : PF) : Prop := I 64 17 = I 306 73 ∧ 0 ≤ I 306 73 ∧ I 306 73 ≤ 7 ∧ ∀ k, 0 ≤ k → k < I 306 73 → I 304 k = I 353 k ∧ (I 353 k = 255 ∨ 0 ≤ I 353 k ∧ I 353 k < D 339 0)
/-- nothing is told yet -/
def Non (p : Int) (I : PF) : Prop := (I p 0 = 0 ∧ I p 1 = 0 ∧ I p 5 = 0 ∧ I p 6 = 0) ∧ I 306 55 = 0 ∧ (I 341 5 = 0 ∧ I 341 6 = 0) ∧ (I 339 3 = 0 ∧ I 339 4 = 0 ∧ I 339 5 = 0) ∧ (I 111 0 = 0 ∧ I 111 1 = -1 ∧ I 111 2 = 0 ∧ I 111 3 = 0) ∧ (I 348 0 = 0 ∧ I 348 1 = -1 ∧ I 348 2 = 0 ∧ I 348 33 = 0) ∧ (I 136 1 = 0 ∧ I 136 5 = 0) ∧ I 306 76 = 0 ∧ I 306 73 = 0 ∧ I 64 17 = 0
/-- what K keeps of noons, as the class keeps them: len of them -/
def PaL (K : PF) (len : Int) (I : PF) : Prop := 0 ≤ len ∧ len ≤ K 348 0 ∧ K 348 33 = min len 40 ∧ ∀ k w, 0 ≤ k → k < min len 40 → 0 ≤ w → w < 3 → K 348 (34 + 3 * k + w) = I (138 + w) (len - min len 40 + k)
def slK (I : PF) (m : Int) : PF := fun x y => if x = 348 then I 354 (154 * m + y) else I x y
/-- places of the act e ago -/
def cSl (I : PF) (e : Int) : Int := (I 136 4 - e) % 20
def mSl (I : PF) (e : Int) : Int := (I 306 77 - e + 1) % 20
def Pst (D I : PF) : Prop := PaL I (I 136 1) I ∧ I 136 5 = I 306 76 ∧ 0 ≤ I 306 76 ∧ I 306 76 ≤ 20 ∧
  (∀ e, 1 ≤ e → e ≤ I 306 76 → StC D (slK I (mSl I e)) (143 + 8 * cSl I e) I ∧ KG D (slK I (mSl I e)) ∧ PaL (slK I (mSl I e)) (I 142 (cSl I e)) I ∧ I 142 (cSl I e) ≤ I 136 1) ∧
  ∀ e f, 1 ≤ e → e ≤ f → f ≤ I 306 76 → I 142 (cSl I f) ≤ I 142 (cSl I e)
def Tld (D : PF) (p : Int) (I : PF) : Prop := GD D ∧ WD D ∧ QR D p I ∧ LR D p I ∧ ST D I ∧ KG D I ∧ StC D I 111 I ∧ Pst D I ∧ Seen D I
/-- the cells of a square's people that are never told -/
def Z7 (I : PF) : Prop := ∀ x, (85 ≤ x ∧ x ≤ 90 ∨ 104 ≤ x ∧ x ≤ 109) → I x 7 = 0
def CWZ (I : PF) : Prop := CW I ∧ Z7 I
def Sim (I R : PF) : Prop := Shp R ∧ CWZ I ∧ Tap I ∧ Sml I ∧ ∃ p o, Plc R p o ∧ (Non p I ∨ ∃ D, Tld D p I)
/-! what may change without a trace -/
def scC (p o x y : Int) : Prop := x = 127 ∨ x = 128 ∨ x = 129 ∨ x = 130 ∨ x = 131 ∨ x = 132 ∨ x = 133 ∨ x = 134 ∨ x = 135 ∨ (x = 303 ∧ y = 1) ∨ x = p + 7 ∨ x = p + 10 ∨ x = 0 ∨ (119 ≤ x ∧ x ≤ 126) ∨ x = 67 ∨ x = 68 ∨ x = 69 ∨ x = 70 ∨ x = 71 ∨ x = 110
def scM (x y : Int) : Prop := (x = 306 ∧ (y = 2 ∨ y = 3 ∨ y = 4 ∨ y = 5 ∨ y = 6 ∨ y = 10 ∨ y = 41 ∨ y = 48 ∨ y = 53 ∨ y = 54 ∨ y = 56 ∨ y = 57 ∨ y = 58 ∨ y = 61 ∨ y = 62 ∨ y = 64 ∨ y = 65 ∨ y = 66 ∨ y = 69 ∨ y = 70 ∨ y = 71 ∨ y = 104 ∨ y = 106 ∨ y = 107 ∨ y = 108 ∨ y = 110 ∨ y = 111 ∨ y = 112)) ∨ (349 ≤ x ∧ x ≤ 352) ∨ x = 379 ∨ x = 380 ∨ x = 381 ∨ (x = 339 ∧ y < 3) ∨ (x = 340 ∧ y < 12) ∨ (x = 341 ∧ y < 5) ∨ (x = 342 ∧ y < 24) ∨ x = 343 ∨ (x = 344 ∧ y < 20) ∨ ((x = 345 ∨ x = 346) ∧ y < 2) ∨ (x = 347 ∧ y < 1600)
def scR (x y : Int) : Prop := (x = 67 ∧ y = 6) ∨ (x = 71 ∧ y = 1) ∨ (x = 110 ∧ y = 2) ∨ (x = 127 ∧ y ≤ 2)
theorem KG.cg {D K K' : PF} (h : KG D K) (hn : 0 ≤ D 339 1 ∧ D 339 1 ≤ 6) (h8 : ∀ y, 0 ≤ y → y < 33 → K' 348 y = K 348 y) (h2 : ∀ y, 24 ≤ y → K' 342 y = K 342 y) : KG D K' := by
  obtain ⟨a1, a2, a3, a4, a5, a6⟩ := h
  have hP : ∀ p, 0 ≤ p → p < D 339 1 → P0 K' p = P0 K p := fun p p0 p1 => by unfold P0; rw [h8 _ (by omega) (by omega), h8 _ (by omega) (by omega)]
  refine ⟨by rw [h8 _ (by decide) (by decide)]; exact a1, by rw [h8 _ (by decide) (by decide)]; exact a2, by rw [h8 _ (by decide) (by decide)]; exact a3, fun p p0 p1 => by rw [hP p p0 p1]; exact a4 p p0 p1, ⟨fun k j k0 k1 j0 j1 kj => by rw [hP k k0 k1, hP j j0 j1]; exact a5.1 k j k0 k1 j0 j1 kj, fun k k0 k1 => by rw [hP k k0 k1]; exact a5.2 k k0 k1⟩, fun p p0 p1 => ?_⟩
  rw [h2 _ (by omega), h2 _ (by omega), h2 _ (by omega), h8 _ (by omega) (by omega), h8 _ (by omega) (by omega), h8 _ (by omega) (by omega)]
  exact a6 p p0 p1
theorem StC.cg {D K K' : PF} {s : Int} {I : PF} (h : StC D K s I) (hn : 0 ≤ D 339 1 ∧ D 339 1 ≤ 6) (h8 : ∀ y, 0 ≤ y → y < 33 → K' 348 y = K 348 y) (h2 : ∀ y, 24 ≤ y → K' 342 y = K 342 y) : StC D K' s I := by
  obtain ⟨⟨a1, a2, a3, a4⟩, a5⟩ := h
  refine ⟨⟨by rw [h8 _ (by decide) (by decide)]; exact a1, by rw [h8 _ (by decide) (by decide)]; exact a2, by rw [h8 _ (by decide) (by decide)]; exact a3, a4⟩, fun p p0 p1 => ?_⟩
  rw [h2 _ (by omega), h2 _ (by omega), h2 _ (by omega), h8 _ (by omega) (by omega), h8 _ (by omega) (by omega), h8 _ (by omega) (by omega), h8 _ (by omega) (by omega), h8 _ (by omega) (by omega)]
  exact a5 p p0 p1
theorem PaL.cg {K K' : PF} {len : Int} {I I' : PF} (h : PaL K len I) (h8 : ∀ y, 0 ≤ y → y < 154 → K' 348 y = K 348 y) (hI : ∀ w j, 0 ≤ w → w < 3 → j < len → I' (138 + w) j = I (138 + w) j) : PaL K' len I' := by
  obtain ⟨a1, a2, a3, a4⟩ := h
  refine ⟨a1, by rw [h8 _ (by decide) (by decide)]; exact a2, by rw [h8 _ (by decide) (by decide)]; exact a3, fun k w k0 k1 w0 w1 => ?_⟩
  rw [h8 _ (by omega) (by omega), hI _ _ w0 w1 (by omega)]
  exact a4 k w k0 k1 w0 w1
theorem mod20 (x : Int) : 0 ≤ x % 20 ∧ x % 20 < 20 := ⟨Int.emod_nonneg _ (by decide), Int.emod_lt_of_pos _ (by decide)⟩
/-- the past, where its cells stay -/
theorem Pst.cg {D I I' : PF} (h : Pst D I) (hn : 0 ≤ D 339 1 ∧ D 339 1 ≤ 6) (h8 : ∀ y, 0 ≤ y → y < 154 → I' 348 y = I 348 y) (h2 : ∀ y, 24 ≤ y → I' 342 y = I 342 y) (h354 : ∀ y, I' 354 y = I 354 y) (hc : ∀ x y, 136 ≤ x → x ≤ 302 → I' x y = I x y) (h76 : I' 306 76 = I 306 76) (h77 : I' 306 77 = I 306 77) : Pst D I' := by
  obtain ⟨a1, a2, a3, a4, a5, a6⟩ := h
  have ec : ∀ e, cSl I' e = cSl I e := fun e => by unfold cSl; rw [hc _ _ (by decide) (by decide)]
  have em : ∀ e, mSl I' e = mSl I e := fun e => by unfold mSl; rw [h77]
  have s8 : ∀ m y, slK I' m 348 y = slK I m 348 y := fun m y => by unfold slK; rw [if_pos rfl, if_pos rfl]; exact h354 _
  have s2 : ∀ m y, 24 ≤ y → slK I' m 342 y = slK I m 342 y := fun m y h => by unfold slK; rw [if_neg (by decide), if_neg (by decide)]; exact h2 y h
  refine ⟨?_, by rw [hc _ _ (by decide) (by decide), h76]; exact a2, by rw [h76]; exact a3, by rw [h76]; exact a4, fun e e1 e2 => ?_, fun e f e1 e2 e3 => ?_⟩
  · rw [hc 136 1 (by decide) (by decide)]
    exact a1.cg h8 (fun w j w0 w1 _ => hc _ _ (by omega) (by omega))
  · rw [h76] at e2
    obtain ⟨b1, b2, b3, b4⟩ := a5 e e1 e2
    have cr := mod20 (I 136 4 - e)
    rw [ec, em, hc 142 _ (by decide) (by decide), hc 136 1 (by decide) (by decide)]
    refine ⟨(b1.cg hn (fun y _ _ => s8 _ y) (s2 _)).fr hn (fun x y c => hc x y ?_ ?_), b2.cg hn (fun y _ _ => s8 _ y) (s2 _), b3.cg (fun y _ _ => s8 _ y) (fun w j w0 w1 _ => hc _ _ (by omega) (by omega)), b4⟩
    · unfold stC cSl at c; omega
    · unfold stC cSl at c; omega
  · rw [h76] at e3
    rw [ec, ec, hc 142 _ (by decide) (by decide), hc 142 _ (by decide) (by decide)]
    exact a6 e f e1 e2 e3
theorem Seen.cg {D I I' : PF} (h : Seen D I) (h17 : I' 64 17 = I 64 17) (h73 : I' 306 73 = I 306 73) (h4 : ∀ y, I' 304 y = I 304 y) (h3 : ∀ y, I' 353 y = I 353 y) : Seen D I' := by
  obtain ⟨a1, a2, a3, a4⟩ := h
  refine ⟨by rw [h17, h73]; exact a1, by rw [h73]; exact a2, by rw [h73]; exact a3, fun k k0 k1 => ?_⟩
  rw [h73] at k1
  rw [h4, h3]
  exact a4 k k0 k1
theorem ST.cg {D I I' : PF} (h : ST D I) (hD : GD D) (h6 : ∀ y, (y = 55 ∨ y = 49) → I' 306 y = I 306 y) (h39 : ∀ y, 3 ≤ y → I' 339 y = I 339 y) (h40 : ∀ y, 12 ≤ y → I' 340 y = I 340 y) (h41 : ∀ y, 5 ≤ y → I' 341 y = I 341 y) (h42 : ∀ y, 24 ≤ y → I' 342 y = I 342 y) (h44 : ∀ y, 20 ≤ y → I' 344 y = I 344 y) (h45 : ∀ x y, (x = 345 ∨ x = 346) → 2 ≤ y → I' x y = I x y) (h47 : ∀ y, 1600 ≤ y → I' 347 y = I 347 y) : ST D I' := by
  obtain ⟨a1, a2, a3, a4, a5, a6, a7, a8, a9⟩ := h
  refine ⟨by rw [h6 _ (by decide)]; exact a1, fun j j0 j1 => by rw [h39 _ (by omega)]; exact a2 j j0 j1, fun j j0 j1 => by rw [h40 _ (by omega)]; exact a3 j j0 j1, fun j j0 j1 => by rw [h41 _ (by omega)]; exact a4 j j0 j1, fun j j0 j1 => by rw [h42 _ (by omega)]; exact a5 j j0 j1, fun j j0 j1 => by rw [h44 _ (by omega)]; exact a6 j j0 j1, by rw [h6 _ (by decide)]; exact a7, fun j j0 j1 => by rw [h45 _ _ (by decide) (by omega), h45 _ _ (by decide) (by omega)]; exact a8 j j0 j1, fun j j0 j1 => by rw [h47 _ (by omega)]; exact a9 j j0 j1⟩
/-- what is told stays, where only traceless cells change -/
theorem Tld.sc {D : PF} {p o : Int} {I I' : PF} (h : Tld D p I) (hp : p = 72 ∧ o = 91 ∨ p = 91 ∧ o = 72) (f : FR (fun x y => scC p o x y ∨ scM x y) I I') : Tld D p I' := by
  obtain ⟨h1, h2, h3, h4, h5, h6, h7, h8, h9⟩ := h
  have hD := h1.2.1
  have e : ∀ x y, ¬ (scC p o x y ∨ scM x y) → I' x y = I x y := f
  have e8 : ∀ y, I' 348 y = I 348 y := fun y => e _ _ (fun c => by unfold scC scM at c; omega)
  have e2 : ∀ y, 24 ≤ y → I' 342 y = I 342 y := fun y hy => e _ _ (fun c => by unfold scC scM at c; omega)
  refine ⟨h1, h2, h3.f2 (fun x x0 x1 x2 x3 => funext fun y => e x y (fun c => by unfold scC scM at c; omega)) h1, fun k k0 k1 => ?_, h5.cg h1 (fun y c => e _ _ (fun d => by unfold scC scM at d; omega)) (fun y c => e _ _ (fun d => by unfold scC scM at d; omega)) (fun y c => e _ _ (fun d => by unfold scC scM at d; omega)) (fun y c => e _ _ (fun d => by unfold scC scM at d; omega)) e2 (fun y c => e _ _ (fun d => by unfold scC scM at d; omega)) (fun x y c c2 => e _ _ (fun d => by unfold scC scM at d; omega)) (fun y c => e _ _ (fun d => by unfold scC scM at d; omega)), h6.cg ⟨by omega, by omega⟩ (fun y _ _ => e8 y) e2, (h7.cg ⟨by omega, by omega⟩ (fun y _ _ => e8 y) e2).fr ⟨by omega, by omega⟩ (fun x y c => e x y (fun d => by unfold stC at c; unfold scC scM at d; omega)), h8.cg ⟨by omega, by omega⟩ (fun y _ _ => e8 y) e2 (fun y => e _ _ (fun d => by unfold scC scM at d; omega)) (fun x y x0 x1 => e _ _ (fun d => by unfold scC scM at d; omega)) (e _ _ (fun d => by unfold scC scM at d; omega)) (e _ _ (fun d => by unfold scC scM at d; omega)), h9.cg (e _ _ (fun d => by unfold scC scM at d; omega)) (e _ _ (fun d => by unfold scC scM at d; omega)) (fun y => e _ _ (fun d => by unfold scC scM at d; omega)) (fun y => e _ _ (fun d => by unfold scC scM at d; omega))⟩
  rw [e _ _ (fun c => by unfold scC scM at c; omega)]; exact h4 k k0 k1
theorem Sml.sc {p o : Int} {I I' : PF} (h : Sml I) (hp : p = 72 ∧ o = 91 ∨ p = 91 ∧ o = 72) (f : FR (fun x y => scC p o x y ∨ scM x y) I I') (h5 : bd (I' 131 5)) : Sml I' := by
  obtain ⟨a1, a2, a3, a4, a5, a6, a7, a8⟩ := h
  have e : ∀ x y, ¬ (scC p o x y ∨ scM x y) → I' x y = I x y := f
  have e6 : ∀ y, ¬ scM 306 y → I' 306 y = I 306 y := fun y c => e _ _ (fun d => by
    rcases d with d | d
    · unfold scC at d; omega
    · exact c d)
  refine ⟨fun j => by rw [e _ _ (fun c => by unfold scC scM at c; omega), e 308 _ (fun c => by unfold scC scM at c; omega)]; exact a1 j, ?_, ?_, ?_, ?_, h5, ?_, ?_⟩
  · rw [e 64 _ (fun c => by unfold scC scM at c; omega), e 64 _ (fun c => by unfold scC scM at c; omega), e6 _ (fun c => by unfold scM at c; omega), e6 _ (fun c => by unfold scM at c; omega)]; exact a2
  · rw [e 303 _ (fun c => by unfold scC scM at c; omega), e6 _ (fun c => by unfold scM at c; omega)]; exact a3
  · rw [e 64 _ (fun c => by unfold scC scM at c; omega), e6 _ (fun c => by unfold scM at c; omega)]
    refine ⟨a4.1, a4.2.1, a4.2.2.1, fun k k0 k1 => ?_⟩
    rw [e 305 _ (fun c => by unfold scC scM at c; omega), e 382 _ (fun c => by unfold scC scM at c; omega)]
    exact a4.2.2.2 k k0 k1
  · rw [e6 _ (fun c => by unfold scM at c; omega)]; exact a5
  · rw [e _ _ (fun c => by unfold scC scM at c; omega)]; exact a7
  · rw [e6 _ (fun c => by unfold scM at c; omega)]; exact a8
theorem Tap.sc {p o : Int} {I I' : PF} (h : Tap I) (hp : p = 72 ∧ o = 91 ∨ p = 91 ∧ o = 72) (f : FR (fun x y => scC p o x y ∨ scM x y) I I') : Tap I' := by
  obtain ⟨a1, a2, a3, a4, a5⟩ := h
  have e : ∀ x y, ¬ (scC p o x y ∨ scM x y) → I' x y = I x y := f
  have e7 : I' 307 = I 307 := funext fun y => e _ _ (fun c => by unfold scC scM at c; omega)
  have e65 : I' 65 = I 65 := funext fun y => e _ _ (fun c => by unfold scC scM at c; omega)
  have e1 : I' 306 1 = I 306 1 := e _ _ (fun c => by unfold scC scM at c; omega)
  refine ⟨by rw [e65, e7]; exact a1, by rw [e1, e 64 1 (fun c => by unfold scC scM at c; omega)]; exact a2, by rw [e1]; exact a3, by rw [e1]; exact a4, by rw [e7]; exact a5⟩
theorem Non.sc {p o : Int} {I I' : PF} (h : Non p I) (hp : p = 72 ∧ o = 91 ∨ p = 91 ∧ o = 72) (f : FR (fun x y => scC p o x y ∨ scM x y) I I') : Non p I' := by
  have e : ∀ x y, ¬ (scC p o x y ∨ scM x y) → I' x y = I x y := f
  unfold Non at h ⊢
  have n : ∀ x y, (x = p ∨ (x = 306 ∧ (y = 55 ∨ y = 73 ∨ y = 76)) ∨ (x = 341 ∧ 5 ≤ y) ∨ (x = 339 ∧ 3 ≤ y) ∨ x = 111 ∨ x = 348 ∨ x = 136 ∨ x = 64) → I' x y = I x y := fun x y c => e x y (fun d => by unfold scC scM at d; omega)
  rw [n p 0 (by omega), n p 1 (by omega), n p 5 (by omega), n p 6 (by omega), n 306 55 (by omega), n 306 73 (by omega), n 306 76 (by omega), n 341 5 (by omega), n 341 6 (by omega), n 339 3 (by omega), n 339 4 (by omega), n 339 5 (by omega), n 111 0 (by omega), n 111 1 (by omega), n 111 2 (by omega), n 111 3 (by omega), n 348 0 (by omega), n 348 1 (by omega), n 348 2 (by omega), n 348 33 (by omega), n 136 1 (by omega), n 136 5 (by omega), n 64 17 (by omega)]
  exact h
theorem Plc.sc {R R' : PF} {p o : Int} (h : Plc R p o) (f : FR scR R R') : Plc R' p o := by
  obtain ⟨a1, a2, a3⟩ := h
  exact ⟨(f _ _ (fun c => by unfold scR at c; omega)).trans a1, (f _ _ (fun c => by unfold scR at c; omega)).trans a2, a3⟩
theorem CWZ.sc {p o : Int} {I I' : PF} (h : CWZ I) (hp : p = 72 ∧ o = 91 ∨ p = 91 ∧ o = 72) (f : FR (fun x y => scC p o x y ∨ scM x y) I I') : CWZ I' :=
  ⟨h.1.rows (fun a ha => funext fun y => f a y (fun c => by unfold scC scM at c; omega)), fun x hx => by rw [f x 7 (fun c => by unfold scC scM at c; omega)]; exact h.2 x hx⟩
theorem scR_mR {R R' : PF} (f : FR scR R R') : FR mR R R' := f.mono (fun x y c => by unfold scR at c; unfold mR; omega)
/-- nothing but traceless cells change -/
theorem Sim.sc {I I' R R' : PF} {p o : Int} (h : Sim I R) (hp : Plc R p o) (f : FR (fun x y => scC p o x y ∨ scM x y) I I') (fR : FR scR R R') (h5 : bd (I' 131 5)) : Sim I' R' := by
  obtain ⟨h1, h2, h3, h4, p', o', h6, h7⟩ := h
  obtain ⟨e1, e2, e3⟩ := hp
  obtain ⟨e4, e5, e6⟩ := id h6
  obtain rfl : p' = p := e4.symm.trans e1
  obtain rfl : o' = o := e5.symm.trans e2
  refine ⟨h1.fr (scR_mR fR), h2.sc e3 f, h3.sc e3 f, h4.sc e3 f h5, p', o', h6.sc fR, ?_⟩
  rcases h7 with h7 | ⟨D, h7⟩
  · exact Or.inl (h7.sc e3 f)
  · exact Or.inr ⟨D, h7.sc e3 f⟩
