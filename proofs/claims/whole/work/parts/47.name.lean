/-! ===== own words, names ===== -/
abbrev ow1 : List Int := [232608281, 173171034, 119717838, 295406595, 41983839, 282078293]
abbrev ow2 : List Int := [94421673, 281319642, 65479509, 230176647, 287754525, 24977727, 232608281, 173171034, 119717838, 295406595, 41983839, 282078293]
abbrev ow3 : List Int := [117630947, 209161764, 111991167, 187559307, 335086821, 330801246, 94421673, 281319642, 65479509, 230176647, 287754525, 24977727, 232608281, 173171034, 119717838, 295406595, 41983839, 282078293]
abbrev ow4 : List Int := [212302449, 103507065, 266704650, 51270206, 289999629, 338354415, 117630947, 209161764, 111991167, 187559307, 335086821, 330801246, 94421673, 281319642, 65479509, 230176647, 287754525, 24977727, 232608281, 173171034, 119717838, 295406595, 41983839, 282078293]
abbrev ow5 : List Int := [187539624, 191594322, 20962395, 209249973, 21867813, 224799543, 212302449, 103507065, 266704650, 51270206, 289999629, 338354415, 117630947, 209161764, 111991167, 187559307, 335086821, 330801246, 94421673, 281319642, 65479509, 230176647, 287754525, 24977727, 232608281, 173171034, 119717838, 295406595, 41983839, 282078293]
theorem c_isOwnHere {X : CX} {I R : PF} {t : Int → Int} {n : Int} {s : SA} (hs : Shp R) (hM : MSt t n s I) (hc : CW I) :
    CN X 3 mX11_isOwnHere [(2, 306)] I R (fun v I' R' => v.2 = bi (tw t n s ∈ ow5) ∧ MSt t n s I' ∧ FR mRd I I' ∧ R' = R ∧ (∀ q, s = .inl q → I' 306 2 = skp t n q.1)) := by
  refine callee_b (by decide +kernel) (Nat.le_of_ble_eq_true rfl) rfl ?_
  let P : PF → Prop := fun I' => MSt t n s I' ∧ FR mRd I I' ∧ (∀ q, s = .inl q → I' 306 2 = skp t n q.1)
  have k5 : ∀ (I' : PF) (o : Int), P I' → o = bi (tw t n s ∈ ow5) → PN X 3 mX11_isOwnHere 375 [] [(0, o)] I' R (fun v I' R' => v.2 = bi (tw t n s ∈ ow5) ∧ MSt t n s I' ∧ FR mRd I I' ∧ R' = R ∧ (∀ q, s = .inl q → I' 306 2 = skp t n q.1)) := fun I' o hP ho =>
    S_X11_isOwnHere_375 (by rw [ho]; exact bi_01 _) ⟨ho, hP.1, hP.2.1, rfl, hP.2.2⟩
  have k4 : ∀ (I' : PF) (o : Int), P I' → o = bi (tw t n s ∈ ow4) → PN X 3 mX11_isOwnHere 299 [(2, 306)] [(0, o)] I' R (fun v I' R' => v.2 = bi (tw t n s ∈ ow5) ∧ MSt t n s I' ∧ FR mRd I I' ∧ R' = R ∧ (∀ q, s = .inl q → I' 306 2 = skp t n q.1)) := fun I' o hP ho => by
    have hb := bi_r (tw t n s ∈ ow4)
    refine S_X11_isOwnHere_299 (by omega) (fun g => ?_) (fun g => ?_)
    · refine S_X11_isOwnHere_370 (k5 I' 1 hP (bi_t ?_).symm)
      exact (by decide : ∀ x ∈ ow4, x ∈ ow5) _ (bi_1 (fun c => g (ho.trans c)))
    have hn := bi_0 (ho.symm.trans g)
    refine S_X11_isOwnHere_304 (d1 := 2) hs (by omega) (w_here (a := 333) (c := 224799543) (by decide) hs hP.1 (hc.rd hP.2.1)) (fun z0 J0 R0 q0 => ?_)
    obtain ⟨(y0 : z0 = _), h0m, f0, e0, h0a⟩ := q0
    subst e0
    have h0f : FR mRd I J0 := (hP.2.1).tr f0
    have b0 := bi_r (tw t n s = 224799543)
    refine S_X11_isOwnHere_312 (by omega) (fun g0 => ?_) (fun g0 => ?_)
    · have c0 := bi_1 (fun c => g0 (y0.trans c))
      refine S_X11_isOwnHere_370 (k5 J0 1 ⟨h0m, h0f, h0a⟩ (bi_t ?_).symm)
      rw [c0]; decide
    have n0 := bi_0 (y0.symm.trans g0)
    refine S_X11_isOwnHere_315 (d1 := 2) hs (by omega) (w_here (a := 334) (c := 21867813) (by decide) hs h0m (hc.rd h0f)) (fun z1 J1 R1 q1 => ?_)
    obtain ⟨(y1 : z1 = _), h1m, f1, e1, h1a⟩ := q1
    subst e1
    have h1f : FR mRd I J1 := (h0f).tr f1
    have b1 := bi_r (tw t n s = 21867813)
    refine S_X11_isOwnHere_323 (by omega) (fun g1 => ?_) (fun g1 => ?_)
    · have c1 := bi_1 (fun c => g1 (y1.trans c))
      refine S_X11_isOwnHere_370 (k5 J1 1 ⟨h1m, h1f, h1a⟩ (bi_t ?_).symm)
      rw [c1]; decide
    have n1 := bi_0 (y1.symm.trans g1)
    refine S_X11_isOwnHere_326 (d1 := 2) hs (by omega) (w_here (a := 335) (c := 209249973) (by decide) hs h1m (hc.rd h1f)) (fun z2 J2 R2 q2 => ?_)
    obtain ⟨(y2 : z2 = _), h2m, f2, e2, h2a⟩ := q2
    subst e2
    have h2f : FR mRd I J2 := (h1f).tr f2
    have b2 := bi_r (tw t n s = 209249973)
    refine S_X11_isOwnHere_334 (by omega) (fun g2 => ?_) (fun g2 => ?_)
    · have c2 := bi_1 (fun c => g2 (y2.trans c))
      refine S_X11_isOwnHere_370 (k5 J2 1 ⟨h2m, h2f, h2a⟩ (bi_t ?_).symm)
      rw [c2]; decide
    have n2 := bi_0 (y2.symm.trans g2)
    refine S_X11_isOwnHere_337 (d1 := 2) hs (by omega) (w_here (a := 336) (c := 20962395) (by decide) hs h2m (hc.rd h2f)) (fun z3 J3 R3 q3 => ?_)
    obtain ⟨(y3 : z3 = _), h3m, f3, e3, h3a⟩ := q3
    subst e3
    have h3f : FR mRd I J3 := (h2f).tr f3
    have b3 := bi_r (tw t n s = 20962395)
    refine S_X11_isOwnHere_345 (by omega) (fun g3 => ?_) (fun g3 => ?_)
    · have c3 := bi_1 (fun c => g3 (y3.trans c))
      refine S_X11_isOwnHere_370 (k5 J3 1 ⟨h3m, h3f, h3a⟩ (bi_t ?_).symm)
      rw [c3]; decide
    have n3 := bi_0 (y3.symm.trans g3)
    refine S_X11_isOwnHere_348 (d1 := 2) hs (by omega) (w_here (a := 337) (c := 191594322) (by decide) hs h3m (hc.rd h3f)) (fun z4 J4 R4 q4 => ?_)
    obtain ⟨(y4 : z4 = _), h4m, f4, e4, h4a⟩ := q4
    subst e4
    have h4f : FR mRd I J4 := (h3f).tr f4
    have b4 := bi_r (tw t n s = 191594322)
    refine S_X11_isOwnHere_356 (by omega) (fun g4 => ?_) (fun g4 => ?_)
    · have c4 := bi_1 (fun c => g4 (y4.trans c))
      refine S_X11_isOwnHere_370 (k5 J4 1 ⟨h4m, h4f, h4a⟩ (bi_t ?_).symm)
      rw [c4]; decide
    have n4 := bi_0 (y4.symm.trans g4)
    refine S_X11_isOwnHere_359 (d1 := 2) hs (by omega) (w_here (a := 338) (c := 187539624) (by decide) hs h4m (hc.rd h4f)) (fun z5 J5 R5 q5 => ?_)
    obtain ⟨(y5 : z5 = _), h5m, f5, e5, h5a⟩ := q5
    subst e5
    have h5f : FR mRd I J5 := (h4f).tr f5
    have b5 := bi_r (tw t n s = 187539624)
    refine S_X11_isOwnHere_367 (by omega) (fun g5 => ?_) (fun g5 => ?_)
    rotate_left
    · have c5 := bi_1 (fun c => g5 (y5.trans c))
      refine S_X11_isOwnHere_370 (k5 J5 1 ⟨h5m, h5f, h5a⟩ (bi_t ?_).symm)
      rw [c5]; decide
    have n5 := bi_0 (y5.symm.trans g5)
    refine S_X11_isOwnHere_374 (k5 J5 0 ⟨h5m, h5f, h5a⟩ (bi_f (fun k => ?_)).symm)
    rcases List.mem_cons.mp k with e | k
    · exact n5 e
    rcases List.mem_cons.mp k with e | k
    · exact n4 e
    rcases List.mem_cons.mp k with e | k
    · exact n3 e
    rcases List.mem_cons.mp k with e | k
    · exact n2 e
    rcases List.mem_cons.mp k with e | k
    · exact n1 e
    rcases List.mem_cons.mp k with e | k
    · exact n0 e
    exact hn k
  have k3 : ∀ (I' : PF) (o : Int), P I' → o = bi (tw t n s ∈ ow3) → PN X 3 mX11_isOwnHere 223 [(2, 306)] [(0, o)] I' R (fun v I' R' => v.2 = bi (tw t n s ∈ ow5) ∧ MSt t n s I' ∧ FR mRd I I' ∧ R' = R ∧ (∀ q, s = .inl q → I' 306 2 = skp t n q.1)) := fun I' o hP ho => by
    have hb := bi_r (tw t n s ∈ ow3)
    refine S_X11_isOwnHere_223 (by omega) (fun g => ?_) (fun g => ?_)
    · refine S_X11_isOwnHere_294 (k4 I' 1 hP (bi_t ?_).symm)
      exact (by decide : ∀ x ∈ ow3, x ∈ ow4) _ (bi_1 (fun c => g (ho.trans c)))
    have hn := bi_0 (ho.symm.trans g)
    refine S_X11_isOwnHere_228 (d1 := 2) hs (by omega) (w_here (a := 327) (c := 338354415) (by decide) hs hP.1 (hc.rd hP.2.1)) (fun z0 J0 R0 q0 => ?_)
    obtain ⟨(y0 : z0 = _), h0m, f0, e0, h0a⟩ := q0
    subst e0
    have h0f : FR mRd I J0 := (hP.2.1).tr f0
    have b0 := bi_r (tw t n s = 338354415)
    refine S_X11_isOwnHere_236 (by omega) (fun g0 => ?_) (fun g0 => ?_)
    · have c0 := bi_1 (fun c => g0 (y0.trans c))
      refine S_X11_isOwnHere_294 (k4 J0 1 ⟨h0m, h0f, h0a⟩ (bi_t ?_).symm)
      rw [c0]; decide
    have n0 := bi_0 (y0.symm.trans g0)
    refine S_X11_isOwnHere_239 (d1 := 2) hs (by omega) (w_here (a := 328) (c := 289999629) (by decide) hs h0m (hc.rd h0f)) (fun z1 J1 R1 q1 => ?_)
    obtain ⟨(y1 : z1 = _), h1m, f1, e1, h1a⟩ := q1
    subst e1
    have h1f : FR mRd I J1 := (h0f).tr f1
    have b1 := bi_r (tw t n s = 289999629)
    refine S_X11_isOwnHere_247 (by omega) (fun g1 => ?_) (fun g1 => ?_)
    · have c1 := bi_1 (fun c => g1 (y1.trans c))
      refine S_X11_isOwnHere_294 (k4 J1 1 ⟨h1m, h1f, h1a⟩ (bi_t ?_).symm)
      rw [c1]; decide
    have n1 := bi_0 (y1.symm.trans g1)
    refine S_X11_isOwnHere_250 (d1 := 2) hs (by omega) (w_here (a := 329) (c := 51270206) (by decide) hs h1m (hc.rd h1f)) (fun z2 J2 R2 q2 => ?_)
    obtain ⟨(y2 : z2 = _), h2m, f2, e2, h2a⟩ := q2
    subst e2
    have h2f : FR mRd I J2 := (h1f).tr f2
    have b2 := bi_r (tw t n s = 51270206)
    refine S_X11_isOwnHere_258 (by omega) (fun g2 => ?_) (fun g2 => ?_)
    · have c2 := bi_1 (fun c => g2 (y2.trans c))
      refine S_X11_isOwnHere_294 (k4 J2 1 ⟨h2m, h2f, h2a⟩ (bi_t ?_).symm)
      rw [c2]; decide
    have n2 := bi_0 (y2.symm.trans g2)
    refine S_X11_isOwnHere_261 (d1 := 2) hs (by omega) (w_here (a := 330) (c := 266704650) (by decide) hs h2m (hc.rd h2f)) (fun z3 J3 R3 q3 => ?_)
    obtain ⟨(y3 : z3 = _), h3m, f3, e3, h3a⟩ := q3
    subst e3
    have h3f : FR mRd I J3 := (h2f).tr f3
    have b3 := bi_r (tw t n s = 266704650)
    refine S_X11_isOwnHere_269 (by omega) (fun g3 => ?_) (fun g3 => ?_)
    · have c3 := bi_1 (fun c => g3 (y3.trans c))
      refine S_X11_isOwnHere_294 (k4 J3 1 ⟨h3m, h3f, h3a⟩ (bi_t ?_).symm)
      rw [c3]; decide
    have n3 := bi_0 (y3.symm.trans g3)
    refine S_X11_isOwnHere_272 (d1 := 2) hs (by omega) (w_here (a := 331) (c := 103507065) (by decide) hs h3m (hc.rd h3f)) (fun z4 J4 R4 q4 => ?_)
    obtain ⟨(y4 : z4 = _), h4m, f4, e4, h4a⟩ := q4
    subst e4
    have h4f : FR mRd I J4 := (h3f).tr f4
    have b4 := bi_r (tw t n s = 103507065)
    refine S_X11_isOwnHere_280 (by omega) (fun g4 => ?_) (fun g4 => ?_)
    · have c4 := bi_1 (fun c => g4 (y4.trans c))
      refine S_X11_isOwnHere_294 (k4 J4 1 ⟨h4m, h4f, h4a⟩ (bi_t ?_).symm)
      rw [c4]; decide
    have n4 := bi_0 (y4.symm.trans g4)
    refine S_X11_isOwnHere_283 (d1 := 2) hs (by omega) (w_here (a := 332) (c := 212302449) (by decide) hs h4m (hc.rd h4f)) (fun z5 J5 R5 q5 => ?_)
    obtain ⟨(y5 : z5 = _), h5m, f5, e5, h5a⟩ := q5
    subst e5
    have h5f : FR mRd I J5 := (h4f).tr f5
    have b5 := bi_r (tw t n s = 212302449)
    refine S_X11_isOwnHere_291 (by omega) (fun g5 => ?_) (fun g5 => ?_)
    rotate_left
    · have c5 := bi_1 (fun c => g5 (y5.trans c))
      refine S_X11_isOwnHere_294 (k4 J5 1 ⟨h5m, h5f, h5a⟩ (bi_t ?_).symm)
      rw [c5]; decide
    have n5 := bi_0 (y5.symm.trans g5)
    refine S_X11_isOwnHere_298 (k4 J5 0 ⟨h5m, h5f, h5a⟩ (bi_f (fun k => ?_)).symm)
    rcases List.mem_cons.mp k with e | k
    · exact n5 e
    rcases List.mem_cons.mp k with e | k
    · exact n4 e
    rcases List.mem_cons.mp k with e | k
    · exact n3 e
    rcases List.mem_cons.mp k with e | k
    · exact n2 e
    rcases List.mem_cons.mp k with e | k
    · exact n1 e
    rcases List.mem_cons.mp k with e | k
    · exact n0 e
    exact hn k
  have k2 : ∀ (I' : PF) (o : Int), P I' → o = bi (tw t n s ∈ ow2) → PN X 3 mX11_isOwnHere 147 [(2, 306)] [(0, o)] I' R (fun v I' R' => v.2 = bi (tw t n s ∈ ow5) ∧ MSt t n s I' ∧ FR mRd I I' ∧ R' = R ∧ (∀ q, s = .inl q → I' 306 2 = skp t n q.1)) := fun I' o hP ho => by
    have hb := bi_r (tw t n s ∈ ow2)
    refine S_X11_isOwnHere_147 (by omega) (fun g => ?_) (fun g => ?_)
    · refine S_X11_isOwnHere_218 (k3 I' 1 hP (bi_t ?_).symm)
      exact (by decide : ∀ x ∈ ow2, x ∈ ow3) _ (bi_1 (fun c => g (ho.trans c)))
    have hn := bi_0 (ho.symm.trans g)
    refine S_X11_isOwnHere_152 (d1 := 2) hs (by omega) (w_here (a := 321) (c := 330801246) (by decide) hs hP.1 (hc.rd hP.2.1)) (fun z0 J0 R0 q0 => ?_)
    obtain ⟨(y0 : z0 = _), h0m, f0, e0, h0a⟩ := q0
    subst e0
    have h0f : FR mRd I J0 := (hP.2.1).tr f0
    have b0 := bi_r (tw t n s = 330801246)
    refine S_X11_isOwnHere_160 (by omega) (fun g0 => ?_) (fun g0 => ?_)
    · have c0 := bi_1 (fun c => g0 (y0.trans c))
      refine S_X11_isOwnHere_218 (k3 J0 1 ⟨h0m, h0f, h0a⟩ (bi_t ?_).symm)
      rw [c0]; decide
    have n0 := bi_0 (y0.symm.trans g0)
    refine S_X11_isOwnHere_163 (d1 := 2) hs (by omega) (w_here (a := 322) (c := 335086821) (by decide) hs h0m (hc.rd h0f)) (fun z1 J1 R1 q1 => ?_)
    obtain ⟨(y1 : z1 = _), h1m, f1, e1, h1a⟩ := q1
    subst e1
    have h1f : FR mRd I J1 := (h0f).tr f1
    have b1 := bi_r (tw t n s = 335086821)
    refine S_X11_isOwnHere_171 (by omega) (fun g1 => ?_) (fun g1 => ?_)
    · have c1 := bi_1 (fun c => g1 (y1.trans c))
      refine S_X11_isOwnHere_218 (k3 J1 1 ⟨h1m, h1f, h1a⟩ (bi_t ?_).symm)
      rw [c1]; decide
    have n1 := bi_0 (y1.symm.trans g1)
    refine S_X11_isOwnHere_174 (d1 := 2) hs (by omega) (w_here (a := 323) (c := 187559307) (by decide) hs h1m (hc.rd h1f)) (fun z2 J2 R2 q2 => ?_)
    obtain ⟨(y2 : z2 = _), h2m, f2, e2, h2a⟩ := q2
    subst e2
    have h2f : FR mRd I J2 := (h1f).tr f2
    have b2 := bi_r (tw t n s = 187559307)
    refine S_X11_isOwnHere_182 (by omega) (fun g2 => ?_) (fun g2 => ?_)
    · have c2 := bi_1 (fun c => g2 (y2.trans c))
      refine S_X11_isOwnHere_218 (k3 J2 1 ⟨h2m, h2f, h2a⟩ (bi_t ?_).symm)
      rw [c2]; decide
    have n2 := bi_0 (y2.symm.trans g2)
    refine S_X11_isOwnHere_185 (d1 := 2) hs (by omega) (w_here (a := 324) (c := 111991167) (by decide) hs h2m (hc.rd h2f)) (fun z3 J3 R3 q3 => ?_)
    obtain ⟨(y3 : z3 = _), h3m, f3, e3, h3a⟩ := q3
    subst e3
    have h3f : FR mRd I J3 := (h2f).tr f3
    have b3 := bi_r (tw t n s = 111991167)
    refine S_X11_isOwnHere_193 (by omega) (fun g3 => ?_) (fun g3 => ?_)
    · have c3 := bi_1 (fun c => g3 (y3.trans c))
      refine S_X11_isOwnHere_218 (k3 J3 1 ⟨h3m, h3f, h3a⟩ (bi_t ?_).symm)
      rw [c3]; decide
    have n3 := bi_0 (y3.symm.trans g3)
    refine S_X11_isOwnHere_196 (d1 := 2) hs (by omega) (w_here (a := 325) (c := 209161764) (by decide) hs h3m (hc.rd h3f)) (fun z4 J4 R4 q4 => ?_)
    obtain ⟨(y4 : z4 = _), h4m, f4, e4, h4a⟩ := q4
    subst e4
    have h4f : FR mRd I J4 := (h3f).tr f4
    have b4 := bi_r (tw t n s = 209161764)
    refine S_X11_isOwnHere_204 (by omega) (fun g4 => ?_) (fun g4 => ?_)
    · have c4 := bi_1 (fun c => g4 (y4.trans c))
      refine S_X11_isOwnHere_218 (k3 J4 1 ⟨h4m, h4f, h4a⟩ (bi_t ?_).symm)
      rw [c4]; decide
    have n4 := bi_0 (y4.symm.trans g4)
    refine S_X11_isOwnHere_207 (d1 := 2) hs (by omega) (w_here (a := 326) (c := 117630947) (by decide) hs h4m (hc.rd h4f)) (fun z5 J5 R5 q5 => ?_)
    obtain ⟨(y5 : z5 = _), h5m, f5, e5, h5a⟩ := q5
    subst e5
    have h5f : FR mRd I J5 := (h4f).tr f5
    have b5 := bi_r (tw t n s = 117630947)
    refine S_X11_isOwnHere_215 (by omega) (fun g5 => ?_) (fun g5 => ?_)
    rotate_left
    · have c5 := bi_1 (fun c => g5 (y5.trans c))
      refine S_X11_isOwnHere_218 (k3 J5 1 ⟨h5m, h5f, h5a⟩ (bi_t ?_).symm)
      rw [c5]; decide
    have n5 := bi_0 (y5.symm.trans g5)
    refine S_X11_isOwnHere_222 (k3 J5 0 ⟨h5m, h5f, h5a⟩ (bi_f (fun k => ?_)).symm)
    rcases List.mem_cons.mp k with e | k
    · exact n5 e
    rcases List.mem_cons.mp k with e | k
    · exact n4 e
    rcases List.mem_cons.mp k with e | k
    · exact n3 e
    rcases List.mem_cons.mp k with e | k
    · exact n2 e
    rcases List.mem_cons.mp k with e | k
    · exact n1 e
    rcases List.mem_cons.mp k with e | k
    · exact n0 e
    exact hn k
  have k1 : ∀ (I' : PF) (o : Int), P I' → o = bi (tw t n s ∈ ow1) → PN X 3 mX11_isOwnHere 71 [(2, 306)] [(0, o)] I' R (fun v I' R' => v.2 = bi (tw t n s ∈ ow5) ∧ MSt t n s I' ∧ FR mRd I I' ∧ R' = R ∧ (∀ q, s = .inl q → I' 306 2 = skp t n q.1)) := fun I' o hP ho => by
    have hb := bi_r (tw t n s ∈ ow1)
    refine S_X11_isOwnHere_71 (by omega) (fun g => ?_) (fun g => ?_)
    · refine S_X11_isOwnHere_142 (k2 I' 1 hP (bi_t ?_).symm)
      exact (by decide : ∀ x ∈ ow1, x ∈ ow2) _ (bi_1 (fun c => g (ho.trans c)))
    have hn := bi_0 (ho.symm.trans g)
    refine S_X11_isOwnHere_76 (d1 := 2) hs (by omega) (w_here (a := 315) (c := 24977727) (by decide) hs hP.1 (hc.rd hP.2.1)) (fun z0 J0 R0 q0 => ?_)
    obtain ⟨(y0 : z0 = _), h0m, f0, e0, h0a⟩ := q0
    subst e0
    have h0f : FR mRd I J0 := (hP.2.1).tr f0
    have b0 := bi_r (tw t n s = 24977727)
    refine S_X11_isOwnHere_84 (by omega) (fun g0 => ?_) (fun g0 => ?_)
    · have c0 := bi_1 (fun c => g0 (y0.trans c))
      refine S_X11_isOwnHere_142 (k2 J0 1 ⟨h0m, h0f, h0a⟩ (bi_t ?_).symm)
      rw [c0]; decide
    have n0 := bi_0 (y0.symm.trans g0)
    refine S_X11_isOwnHere_87 (d1 := 2) hs (by omega) (w_here (a := 316) (c := 287754525) (by decide) hs h0m (hc.rd h0f)) (fun z1 J1 R1 q1 => ?_)
    obtain ⟨(y1 : z1 = _), h1m, f1, e1, h1a⟩ := q1
    subst e1
    have h1f : FR mRd I J1 := (h0f).tr f1
    have b1 := bi_r (tw t n s = 287754525)
    refine S_X11_isOwnHere_95 (by omega) (fun g1 => ?_) (fun g1 => ?_)
    · have c1 := bi_1 (fun c => g1 (y1.trans c))
      refine S_X11_isOwnHere_142 (k2 J1 1 ⟨h1m, h1f, h1a⟩ (bi_t ?_).symm)
      rw [c1]; decide
    have n1 := bi_0 (y1.symm.trans g1)
    refine S_X11_isOwnHere_98 (d1 := 2) hs (by omega) (w_here (a := 317) (c := 230176647) (by decide) hs h1m (hc.rd h1f)) (fun z2 J2 R2 q2 => ?_)
    obtain ⟨(y2 : z2 = _), h2m, f2, e2, h2a⟩ := q2
    subst e2
    have h2f : FR mRd I J2 := (h1f).tr f2
    have b2 := bi_r (tw t n s = 230176647)
    refine S_X11_isOwnHere_106 (by omega) (fun g2 => ?_) (fun g2 => ?_)
    · have c2 := bi_1 (fun c => g2 (y2.trans c))
      refine S_X11_isOwnHere_142 (k2 J2 1 ⟨h2m, h2f, h2a⟩ (bi_t ?_).symm)
      rw [c2]; decide
    have n2 := bi_0 (y2.symm.trans g2)
    refine S_X11_isOwnHere_109 (d1 := 2) hs (by omega) (w_here (a := 318) (c := 65479509) (by decide) hs h2m (hc.rd h2f)) (fun z3 J3 R3 q3 => ?_)
    obtain ⟨(y3 : z3 = _), h3m, f3, e3, h3a⟩ := q3
    subst e3
    have h3f : FR mRd I J3 := (h2f).tr f3
    have b3 := bi_r (tw t n s = 65479509)
    refine S_X11_isOwnHere_117 (by omega) (fun g3 => ?_) (fun g3 => ?_)
    · have c3 := bi_1 (fun c => g3 (y3.trans c))
      refine S_X11_isOwnHere_142 (k2 J3 1 ⟨h3m, h3f, h3a⟩ (bi_t ?_).symm)
      rw [c3]; decide
    have n3 := bi_0 (y3.symm.trans g3)
    refine S_X11_isOwnHere_120 (d1 := 2) hs (by omega) (w_here (a := 319) (c := 281319642) (by decide) hs h3m (hc.rd h3f)) (fun z4 J4 R4 q4 => ?_)
    obtain ⟨(y4 : z4 = _), h4m, f4, e4, h4a⟩ := q4
    subst e4
    have h4f : FR mRd I J4 := (h3f).tr f4
    have b4 := bi_r (tw t n s = 281319642)
    refine S_X11_isOwnHere_128 (by omega) (fun g4 => ?_) (fun g4 => ?_)
    · have c4 := bi_1 (fun c => g4 (y4.trans c))
      refine S_X11_isOwnHere_142 (k2 J4 1 ⟨h4m, h4f, h4a⟩ (bi_t ?_).symm)
      rw [c4]; decide
    have n4 := bi_0 (y4.symm.trans g4)
    refine S_X11_isOwnHere_131 (d1 := 2) hs (by omega) (w_here (a := 320) (c := 94421673) (by decide) hs h4m (hc.rd h4f)) (fun z5 J5 R5 q5 => ?_)
    obtain ⟨(y5 : z5 = _), h5m, f5, e5, h5a⟩ := q5
    subst e5
    have h5f : FR mRd I J5 := (h4f).tr f5
    have b5 := bi_r (tw t n s = 94421673)
    refine S_X11_isOwnHere_139 (by omega) (fun g5 => ?_) (fun g5 => ?_)
    rotate_left
    · have c5 := bi_1 (fun c => g5 (y5.trans c))
      refine S_X11_isOwnHere_142 (k2 J5 1 ⟨h5m, h5f, h5a⟩ (bi_t ?_).symm)
      rw [c5]; decide
    have n5 := bi_0 (y5.symm.trans g5)
    refine S_X11_isOwnHere_146 (k2 J5 0 ⟨h5m, h5f, h5a⟩ (bi_f (fun k => ?_)).symm)
    rcases List.mem_cons.mp k with e | k
    · exact n5 e
    rcases List.mem_cons.mp k with e | k
    · exact n4 e
    rcases List.mem_cons.mp k with e | k
    · exact n3 e
    rcases List.mem_cons.mp k with e | k
    · exact n2 e
    rcases List.mem_cons.mp k with e | k
    · exact n1 e
    rcases List.mem_cons.mp k with e | k
    · exact n0 e
    exact hn k
  refine S_X11_isOwnHere_0 (d1 := 2) hs (by omega) (w_here (a := 309) (c := 282078293) (by decide) hs hM (hc.rd FR.rf)) (fun z0 J0 R0 q0 => ?_)
  obtain ⟨(y0 : z0 = _), h0m, f0, e0, h0a⟩ := q0
  subst e0
  have h0f : FR mRd I J0 := (FR.rf).tr f0
  have b0 := bi_r (tw t n s = 282078293)
  refine S_X11_isOwnHere_8 (by omega) (fun g0 => ?_) (fun g0 => ?_)
  · have c0 := bi_1 (fun c => g0 (y0.trans c))
    refine S_X11_isOwnHere_66 (k1 J0 1 ⟨h0m, h0f, h0a⟩ (bi_t ?_).symm)
    rw [c0]; decide
  have n0 := bi_0 (y0.symm.trans g0)
  refine S_X11_isOwnHere_11 (d1 := 2) hs (by omega) (w_here (a := 310) (c := 41983839) (by decide) hs h0m (hc.rd h0f)) (fun z1 J1 R1 q1 => ?_)
  obtain ⟨(y1 : z1 = _), h1m, f1, e1, h1a⟩ := q1
  subst e1
  have h1f : FR mRd I J1 := (h0f).tr f1
  have b1 := bi_r (tw t n s = 41983839)
  refine S_X11_isOwnHere_19 (by omega) (fun g1 => ?_) (fun g1 => ?_)
  · have c1 := bi_1 (fun c => g1 (y1.trans c))
    refine S_X11_isOwnHere_66 (k1 J1 1 ⟨h1m, h1f, h1a⟩ (bi_t ?_).symm)
    rw [c1]; decide
  have n1 := bi_0 (y1.symm.trans g1)
  refine S_X11_isOwnHere_22 (d1 := 2) hs (by omega) (w_here (a := 311) (c := 295406595) (by decide) hs h1m (hc.rd h1f)) (fun z2 J2 R2 q2 => ?_)
  obtain ⟨(y2 : z2 = _), h2m, f2, e2, h2a⟩ := q2
  subst e2
  have h2f : FR mRd I J2 := (h1f).tr f2
  have b2 := bi_r (tw t n s = 295406595)
  refine S_X11_isOwnHere_30 (by omega) (fun g2 => ?_) (fun g2 => ?_)
  · have c2 := bi_1 (fun c => g2 (y2.trans c))
    refine S_X11_isOwnHere_66 (k1 J2 1 ⟨h2m, h2f, h2a⟩ (bi_t ?_).symm)
    rw [c2]; decide
  have n2 := bi_0 (y2.symm.trans g2)
  refine S_X11_isOwnHere_33 (d1 := 2) hs (by omega) (w_here (a := 312) (c := 119717838) (by decide) hs h2m (hc.rd h2f)) (fun z3 J3 R3 q3 => ?_)
  obtain ⟨(y3 : z3 = _), h3m, f3, e3, h3a⟩ := q3
  subst e3
  have h3f : FR mRd I J3 := (h2f).tr f3
  have b3 := bi_r (tw t n s = 119717838)
  refine S_X11_isOwnHere_41 (by omega) (fun g3 => ?_) (fun g3 => ?_)
  · have c3 := bi_1 (fun c => g3 (y3.trans c))
    refine S_X11_isOwnHere_66 (k1 J3 1 ⟨h3m, h3f, h3a⟩ (bi_t ?_).symm)
    rw [c3]; decide
  have n3 := bi_0 (y3.symm.trans g3)
  refine S_X11_isOwnHere_44 (d1 := 2) hs (by omega) (w_here (a := 313) (c := 173171034) (by decide) hs h3m (hc.rd h3f)) (fun z4 J4 R4 q4 => ?_)
  obtain ⟨(y4 : z4 = _), h4m, f4, e4, h4a⟩ := q4
  subst e4
  have h4f : FR mRd I J4 := (h3f).tr f4
  have b4 := bi_r (tw t n s = 173171034)
  refine S_X11_isOwnHere_52 (by omega) (fun g4 => ?_) (fun g4 => ?_)
  · have c4 := bi_1 (fun c => g4 (y4.trans c))
    refine S_X11_isOwnHere_66 (k1 J4 1 ⟨h4m, h4f, h4a⟩ (bi_t ?_).symm)
    rw [c4]; decide
  have n4 := bi_0 (y4.symm.trans g4)
  refine S_X11_isOwnHere_55 (d1 := 2) hs (by omega) (w_here (a := 314) (c := 232608281) (by decide) hs h4m (hc.rd h4f)) (fun z5 J5 R5 q5 => ?_)
  obtain ⟨(y5 : z5 = _), h5m, f5, e5, h5a⟩ := q5
  subst e5
  have h5f : FR mRd I J5 := (h4f).tr f5
  have b5 := bi_r (tw t n s = 232608281)
  refine S_X11_isOwnHere_63 (by omega) (fun g5 => ?_) (fun g5 => ?_)
  rotate_left
  · have c5 := bi_1 (fun c => g5 (y5.trans c))
    refine S_X11_isOwnHere_66 (k1 J5 1 ⟨h5m, h5f, h5a⟩ (bi_t ?_).symm)
    rw [c5]; decide
  have n5 := bi_0 (y5.symm.trans g5)
  refine S_X11_isOwnHere_70 (k1 J5 0 ⟨h5m, h5f, h5a⟩ (bi_f (fun k => ?_)).symm)
  rcases List.mem_cons.mp k with e | k
  · exact n5 e
  rcases List.mem_cons.mp k with e | k
  · exact n4 e
  rcases List.mem_cons.mp k with e | k
  · exact n3 e
  rcases List.mem_cons.mp k with e | k
  · exact n2 e
  rcases List.mem_cons.mp k with e | k
  · exact n1 e
  rcases List.mem_cons.mp k with e | k
  · exact n0 e
  exact absurd k (List.not_mem_nil)
def nv (t : Int → Int) (a : Int) : Nat → Int
  | 0 => 0
  | k + 1 => 27 * nv t a k + t (a + k) - 97 + 1
def valW (t : Int → Int) (n : Int) (q : Int × Bool) : Int := nv t (skp t n q.1) (lenW t n q).toNat
def namS (t : Int → Int) (n : Int) : SA → SA
  | .inl q => if ¬ isW t n q ∨ tw t n (.inl q) ∈ ow5 then .inr (1, skp t n q.1) else if 6 < lenW t n q then .inr (1, skp t n q.1 + 6) else .inl (run isL t n (skp t n q.1), true)
  | .inr f => .inr f
theorem name_loop {X : CX} {d : Nat} {R : PF} {Q : PV → PF → PF → Prop} {a n : Int} {t : Int → Int} (hs : Shp R) (hd : 2 ≤ d) (ha : 0 ≤ a) : ∀ (k j : Nat) (I : PF), 7 - j < k → j ≤ 6 → I 307 = t → I 306 3 = n → n ≤ 1600 → a + j ≤ n → (∀ i, 0 ≤ i → i < 1600 → 0 ≤ t i ∧ t i ≤ 255) → I 306 2 = a + j → I 306 41 = a →
    (∀ I', run isL t n (a + j) - a ≤ 6 → FR (fun x y => x = 306 ∧ y = 2) I I' → I' 306 2 = run isL t n (a + j) → PN X d mX11_name 145 [(2, 306), (1, nv t a (run isL t n (a + j) - a).toNat)] [] I' R Q) →
    (∀ I', 6 < run isL t n (a + j) - a → FR (fun x y => x = 306 ∧ y = 2) I I' → I' 306 2 = a + 6 → PN X d mX11_name 98 [(2, 306)] [] I' R Q) →
    PN X d mX11_name 58 [(2, 306), (1, nv t a j)] [] I R Q := by
  intro k
  induction k with
  | zero => intro j I h; exact absurd h (Nat.not_lt_zero _)
  | succ k ih =>
    intro j I h hj h1 h2 hn haj h5 h6 h41 h7 h8
    refine S_X11_name_58 (by omega) (by omega) (fun g => ?_) (fun g => ?_)
    · have e : run isL t n (a + j) = a + j := run_n (by omega)
      rw [e] at h7
      have := h7 I (by omega) FR.rf h6
      rw [show (a + (j : Int) - a).toNat = j by omega] at this
      exact this
    · have r := h5 (a + j) (by omega) (by omega)
      have e7 : I 307 (I 306 2) = t (a + j) := by rw [h1, h6]
      refine S_X11_name_69 (d1 := 1) hs (by omega) (by omega) (c_isLetter (by omega)) (fun z I2 R2 q => ?_)
      obtain ⟨(hz : z = _), rfl, rfl⟩ := q
      have hb := bi_r (97 ≤ I2 307 (I2 306 2) ∧ I2 307 (I2 306 2) ≤ 122)
      refine S_X11_name_81 (by omega) (fun g2 => ?_) (fun g2 => ?_)
      · have c := bi_0 (hz.symm.trans g2)
        have e : run isL t n (a + j) = a + j := run_n (fun k => c (by rw [e7]; exact isL_iff.mp k.2))
        rw [e] at h7
        have := h7 I2 (by omega) FR.rf h6
        rw [show (a + (j : Int) - a).toNat = j by omega] at this
        exact this
      · have c := bi_1 (fun c => g2 (hz.trans c))
        rw [e7] at c
        have e : run isL t n (a + j) = run isL t n (a + ((j + 1 : Nat) : Int)) := by rw [run_y (by omega) (isL_iff.mpr c)]; congr 1; omega
        refine S_X11_name_84 (by omega) (fun g3 => ?_) (fun g3 => ?_)
        · refine S_X11_name_109 hs (by omega) (by omega) ?_
          have e9 : 27 * nv t a j + I2 307 (I2 306 2) - 97 + 1 = nv t a (j + 1) := by rw [e7]; rfl
          rw [e9]
          refine ih (j + 1) _ (by omega) (by omega) (by rw [u2_row (by decide)]; exact h1) (by rw [u2_j (by decide)]; exact h2) hn (by omega) h5 (by rw [u2_at, h6]; omega) (by rw [u2_j (by decide)]; exact h41) (fun I' x y z => ?_) (fun I' x y z => ?_)
          · rw [← e] at x z ⊢; exact h7 I' x ((FR_u2 (by decide)).tr y) z
          · rw [← e] at x; exact h8 I' x ((FR_u2 (by decide)).tr y) z
        · have r9 := run_ge isL t n (a + ((j + 1 : Nat) : Int))
          exact h8 I2 (by rw [e]; omega) FR.rf (by omega)
theorem c_name {X : CX} {I R : PF} {t : Int → Int} {n : Int} {s : SA} (hs : Shp R) (hM : MSt t n s I) (hc : CW I) :
    CN X 4 mX11_name [(2, 306)] I R (fun v I' R' => MSt t n (namS t n s) I' ∧ FR mRd I I' ∧ R' = R ∧ (∀ q q', s = .inl q → namS t n s = .inl q' → v.2 = valW t n q ∧ I' 306 41 = skp t n q.1) ∧ ((∀ q', namS t n s ≠ .inl q') → v.2 = 0)) := by
  refine callee_b (by decide +kernel) (Nat.le_of_ble_eq_true rfl) rfl ?_
  refine S_X11_name_0 hM.r5 (fun g => ?_) (fun g => ?_)
  rotate_left
  · cases s with
    | inl q => exact absurd hM.ok g
    | inr f => exact S_X11_name_7 ⟨hM, FR.rf, rfl, (fun q q' h => by cases h), fun _ => rfl⟩
  cases s with
  | inr f => exact absurd g hM.bad
  | inl q =>
  refine S_X11_name_9 (d1 := 1) (by omega) (c_look2 hs hM) (fun z I2 R2 qq => ?_)
  obtain ⟨(q1 : z = _), q2, q3, q4, rfl⟩ := qq
  have h0 : 0 ≤ skp t n q.1 := by have := skp_ge t n q.1; have := hM.2.2.1; omega
  have hr : -1 ≤ nxt t n (.inl q) ∧ nxt t n (.inl q) ≤ 255 := lkv_r hM.1 h0
  have hq1 : nxt t n (.inl q) = lkv t n (skp t n q.1) := rfl
  have bad1 : ¬ isW t n q ∨ tw t n (.inl q) ∈ ow5 → ∀ I3, MSt t n (.inl q) I3 → FR mRd I I3 → I3 306 2 = skp t n q.1 → PN X 4 mX11_name 37 [(2, 306)] [] I3 R2 (fun v I' R' => MSt t n (namS t n (.inl q)) I' ∧ FR mRd I I' ∧ R' = R2 ∧ (∀ q2 q', Sum.inl (β := Int × Int) q = .inl q2 → namS t n (.inl q) = .inl q' → v.2 = valW t n q2 ∧ I' 306 41 = skp t n q2.1) ∧ ((∀ q', namS t n (.inl q) ≠ .inl q') → v.2 = 0)) := fun hn I3 m3 f3 a3 => by
    refine S_X11_name_37 (d1 := 1) (by omega) (c_fail m3.r5) (fun z3 I4 R3 q5 => ?_)
    obtain ⟨q6, rfl⟩ := q5
    rw [if_pos m3.ok] at q6
    subst q6
    have e : namS t n (.inl q) = .inr (1, skp t n q.1) := by show (if _ then _ else _) = _; rw [if_pos hn]
    refine S_X11_name_46 ⟨?_, ?_, rfl, fun a b _ h => ?_, fun _ => rfl⟩
    · rw [e]; exact m3.fail a3 (by decide) (by decide)
    · exact f3.tr ((FR_u2 ⟨rfl, by decide⟩).tr (FR_u2 ⟨rfl, by decide⟩))
    · rw [e] at h; cases h
  refine S_X11_name_13 (d1 := 1) (by omega) (c_isLetter (by omega)) (fun z3 I3 R3 q5 => ?_)
  obtain ⟨(hz : z3 = _), rfl, rfl⟩ := q5
  have hb := bi_r (97 ≤ z ∧ z ≤ 122)
  refine S_X11_name_16 (by omega) (fun g2 => ?_) (fun g2 => ?_)
  · have c := bi_0 (hz.symm.trans g2)
    refine bad1 (Or.inl (fun k => c ?_)) _ q2 q4 q3
    rw [q1, hq1]; unfold lkv; rw [if_pos k.1]; exact isL_iff.mp k.2.1
  have c := bi_1 (fun c => g2 (hz.trans c))
  have hn : skp t n q.1 < n := lkv_n (c := z) (q1.symm) (by omega)
  have hd : isL (t (skp t n q.1)) = true := by rw [q1, hq1] at c; unfold lkv at c; rw [if_pos hn] at c; exact isL_iff.mpr c
  have q2' := q2
  obtain ⟨hp, m1, m2, m3, m4, m5, m6⟩ := q2'
  obtain ⟨p1, p2, p3, p4, p5, p6, p7, p8, p9⟩ := hp
  refine S_X11_name_19 (by omega) (by omega) (fun g3 => ?_) (fun g3 => ?_)
  · refine bad1 (Or.inl (fun k => ?_)) _ q2 q4 q3
    cases hq : q.2 with
    | true => rw [m5 hq] at g3; exact k.2.2 ⟨hq, by omega⟩
    | false => have := m6 hq; have := skp_ge t n q.1; omega
  have hN : isW t n q := ⟨hn, hd, fun k => g3 (by rw [m5 k.1, q3]; exact k.2)⟩
  refine S_X11_name_30 (d1 := 3) (by omega) (c_isOwnHere hs q2 (hc.rd q4)) (fun z4 I4 R4 q5 => ?_)
  obtain ⟨(hz4 : z4 = _), r1, r2, rfl, r4⟩ := q5
  have r4 := r4 q rfl
  have hb4 := bi_r (tw t n (.inl q) ∈ ow5)
  refine S_X11_name_34 (by omega) (fun g4 => ?_) (fun g4 => ?_)
  rotate_left
  · exact bad1 (Or.inr (bi_1 (fun c => g4 (hz4.trans c)))) _ r1 (q4.tr r2) r4
  have hno := bi_0 (hz4.symm.trans g4)
  clear p1 p2 p6 p7 p8 p9 m1 m2 m3 m4 m5 m6 q2 q3 hz hz4
  have r1' := r1
  obtain ⟨hp, m1, m2, m3, m4, m5, m6⟩ := r1'
  obtain ⟨p1, p2, _, _, _, p6, p7, p8, p9⟩ := hp
  refine S_X11_name_48 ?_
  rw [r4]
  have rl := run_le (f := isL) (t := t) (n := n) (p := skp t n q.1) (by omega)
  have rg := run_ge isL t n (skp t n q.1)
  have h00 : skp t n q.1 + ((0 : Nat) : Int) = skp t n q.1 := by omega
  have f5 : FR mRd I (u2 I4 306 41 (skp t n q.1)) := (q4.tr r2).tr (FR_u2 ⟨rfl, by decide⟩)
  refine name_loop (t := t) (n := n) hs (by omega) h0 8 0 _ (by omega) (by omega) (by rw [u2_row (by decide)]; exact p1) (by rw [u2_j (by decide)]; exact p2) (by omega) (by omega) p5 (by rw [u2_j (by decide)]; omega) u2_at (fun I' x y w => ?_) (fun I' x y w => ?_)
  · rw [h00] at x w ⊢
    have eI : ∀ y, y ≠ 2 → y ≠ 41 → I' 306 y = I4 306 y := fun y' hy hz => (y 306 y' (fun k => hy k.2)).trans (u2_j hz)
    have e41 : I' 306 41 = skp t n q.1 := (y 306 41 (fun k => absurd k.2 (by decide))).trans u2_at
    have e : namS t n (.inl q) = .inl (run isL t n (skp t n q.1), true) := by
      show (if _ then _ else _) = _
      rw [if_neg (fun k => k.elim (fun k => k hN) hno), if_neg (by unfold lenW; omega)]
    refine S_X11_name_145 ⟨?_, f5.tr ((y.mono (fun a b c => ⟨c.1, Or.inl c.2⟩)).tr (FR_u2 ⟨rfl, by decide⟩)), rfl, fun a b h1 h2 => ?_, fun h => absurd e (h _)⟩
    · rw [e]
      refine ⟨⟨?_, ?_, p3, p4, p5, ?_, ?_, ?_, ?_⟩, ?_, ?_, ?_, ?_, ?_, ?_⟩
      · rw [u2_row (by decide)]
        funext i
        rw [y 307 i (fun k => absurd k.1 (by decide)), u2_row (by decide), p1]
      · rw [u2_j (by decide), eI 3 (by decide) (by decide)]; exact p2
      · rw [u2_j (by decide), w]; omega
      · rw [u2_j (by decide), w]; omega
      · rw [u2_at, w]; omega
      · rw [u2_j (by decide), eI 5 (by decide) (by decide), u2_j (by decide), eI 6 (by decide) (by decide)]; exact p9
      · rw [u2_j (by decide), eI 5 (by decide) (by decide)]; exact m1
      · show 0 ≤ run isL t n (skp t n q.1); omega
      · rw [u2_j (by decide), w]; exact Int.le_refl _
      · rw [u2_j (by decide), w]
      · intro _; rw [u2_at, w]
      · intro k; cases k
    · cases h1
      exact ⟨rfl, by rw [u2_j (by decide)]; exact e41⟩
  · rw [h00] at x
    have eI : ∀ y, y ≠ 2 → y ≠ 41 → I' 306 y = I4 306 y := fun y' hy hz => (y 306 y' (fun k => hy k.2)).trans (u2_j hz)
    have e5 : I' 306 5 = 0 := by rw [eI 5 (by decide) (by decide)]; exact m1
    refine S_X11_name_98 (d1 := 1) (by omega) (c_fail (by rw [e5]; decide)) (fun z6 I6 R6 q6 => ?_)
    obtain ⟨q7, rfl⟩ := q6
    rw [if_pos e5] at q7
    subst q7
    have e : namS t n (.inl q) = .inr (1, skp t n q.1 + 6) := by
      show (if _ then _ else _) = _
      rw [if_neg (fun k => k.elim (fun k => k hN) hno), if_pos (by unfold lenW; omega)]
    refine S_X11_name_107 ⟨?_, f5.tr ((y.mono (fun a b c => ⟨c.1, Or.inl c.2⟩)).tr ((FR_u2 ⟨rfl, by decide⟩).tr (FR_u2 ⟨rfl, by decide⟩))), rfl, (fun a b h1 h2 => by rw [e] at h2; cases h2), fun _ => rfl⟩
    rw [e]
    refine ⟨⟨?_, ?_, p3, p4, p5, ?_, ?_, ?_, ?_⟩, ?_, (by decide : (1 : Int) ≠ 0), ?_⟩
    · rw [u2_row (by decide), u2_row (by decide)]
      funext i
      rw [y 307 i (fun k => absurd k.1 (by decide)), u2_row (by decide), p1]
    · rw [u2_j (by decide), u2_j (by decide), eI 3 (by decide) (by decide)]; exact p2
    · rw [u2_j (by decide), u2_j (by decide), w]; omega
    · rw [u2_j (by decide), u2_j (by decide), w]; omega
    · rw [u2_j (by decide), u2_j (by decide), eI 4 (by decide) (by decide)]; exact p8
    · rw [u2_j (by decide), u2_at]; exact ⟨by decide, fun c => absurd c (by decide)⟩
    · rw [u2_j (by decide), u2_at]
    · rw [u2_at, w]
