/-! ===== the model draws; its people run ===== -/
def nx (s : Int) : Int := (1103515245 * s + 12345) % 2147483648
def drw (n s : Int) : Int := (nx s / 64) % n
def sdR (s : Int) : Prop := 0 ≤ s ∧ s < 2147483648
theorem nx_r (s : Int) : sdR (nx s) := by unfold sdR nx; omega
theorem drw_r {n : Int} (s : Int) (hn : 0 < n) : 0 ≤ drw n s ∧ drw n s < n := ⟨Int.emod_nonneg _ (by omega), Int.emod_lt_of_pos _ hn⟩
theorem c_drawOf {X : CX} {I R : PF} {n s : Int} (hs : I 306 78 = s) (hr : sdR s) (hn : 0 < n ∧ inR n) : CN X 0 mX11_drawOf [(2, 306), (0, n)] I R (fun v I' R' => v.2 = drw n s ∧ I' 306 78 = nx s ∧ FR (fun x y => x = 306 ∧ y = 78) I I' ∧ R' = R) := by
  refine callee_b (by decide +kernel) (Nat.le_of_ble_eq_true rfl) rfl ?_
  obtain ⟨h0, h1⟩ := hr
  obtain ⟨n0, n1⟩ := hn
  have em : (1103515245 * I 306 78 + 12345).tmod 2147483648 = nx s := by rw [hs, Int.tmod_eq_emod_of_nonneg (by omega)]; rfl
  have er := nx_r s
  unfold sdR at er
  have ed : (nx s).tdiv 64 = nx s / 64 := Int.tdiv_eq_ediv_of_nonneg er.1
  have eq : (nx s / 64).tmod n = drw n s := Int.tmod_eq_emod_of_nonneg (by omega)
  refine S_X11_drawOf_0 (by omega) ?_ n1 (by omega) ?_ (by omega) ?_
  · rw [u2_at, em]; omega
  · rw [u2_at, em, ed]; omega
  · refine ⟨?_, ?_, FR_u2 ⟨rfl, rfl⟩, rfl⟩
    · show ((u2 I 306 78 _ 306 78).tdiv 64).tmod n = _
      rw [u2_at, em, ed, eq]
    · rw [u2_at, em]
/-- person p steps k times -/
noncomputable def itp (D : PF) (h : Int × Int) (p : Int) : Nat → (Int → Int × Int) → (Int → Int × Int)
  | 0, P => P
  | k + 1, P => stp D h (itp D h p k P) p
/-- the first k persons run -/
noncomputable def rns (D K : PF) (h : Int × Int) : Nat → (Int → Int × Int) → (Int → Int × Int)
  | 0, P => P
  | k + 1, P => itp D h k (K 342 (25 + 4 * (k : Int))).toNat (rns D K h k P)
theorem itp_in {D : PF} {h : Int × Int} {p : Int} {P : Int → Int × Int} (hP : PIn D P) : ∀ k : Nat, PIn D (itp D h p k P)
  | 0 => hP
  | k + 1 => stp_in (itp_in hP k)
theorem rns_in {D K : PF} {h : Int × Int} {P : Int → Int × Int} (hP : PIn D P) : ∀ k : Nat, PIn D (rns D K h k P)
  | 0 => hP
  | k + 1 => itp_in (rns_in hP k) _
theorem mSp_Fl {I J : PF} (h : FR mSp I J) : FR mFl I J := h.mono (fun x y c => by unfold mSp at c; unfold mFl; omega)
theorem pace_loop {X : CX} {d : Nat} {R : PF} {Q : PV → PF → PF → Prop} {I0 D K : PF} {noon dr p : Int} {h : Int × Int} {P : Int → Int × Int} (hs : Shp R) (hd : 5 ≤ d) (hG : GD D) (hK : KB D K) (hI : PIn D P) (hq : inQ D h) (hp : 0 ≤ p ∧ p < D 339 1)
    (hQ : ∀ I', FR mSp I0 I' → PosM (D 339 1) (itp D h p (K 342 (25 + 4 * p)).toNat P) I' → PN X d mX11_goes 243 [(2, 306), (9, 0), (9, 0), (9, 0), (0, dr), (9, 0), (0, p)] [] I' R Q) : ∀ (m k : Nat) (I : PF), (K 342 (25 + 4 * p)).toNat - k < m → (k : Int) ≤ K 342 (25 + 4 * p) → FlM D K noon I → PosM (D 339 1) (itp D h p k P) I → I 306 64 = h.1 → I 306 65 = h.2 → FR mSp I0 I →
    PN X d mX11_goes 214 [(2, 306), (9, 0), (9, 0), (9, 0), (0, dr), (9, 0), (0, p), (0, (k : Int))] [] I R Q := by
  intro m
  have hD := hG.2.1
  obtain ⟨-, ⟨t1, t2⟩, -⟩ := hK.2 p hp.1 hp.2
  induction m with
  | zero => intro k I h; exact absurd h (Nat.not_lt_zero _)
  | succ m ih =>
    intro k I hm hk hF hP h1 h2 hf
    have e4 : I 342 (25 + 4 * p) = K 342 (25 + 4 * p) := by rw [hF.2.2.1]
    refine S_X11_goes_214 hs (by omega) (by omega) (by omega) (fun g => ?_) (fun g => ?_)
    · refine hQ I hf ?_
      rw [show (K 342 (25 + 4 * p)).toNat = k by omega]
      exact hP
    refine S_X11_goes_231 (d1 := 4) (by omega) (c_steps hs hF.1 hG hP (itp_in hI k) hp hq h1 h2) (fun z I1 R1 q => ?_)
    obtain ⟨q1, q2, rfl⟩ := q
    refine S_X11_goes_237 ?_
    have := ih (k + 1) I1 (by omega) (by omega) (hF.fr (mSp_Fl q2)) q1 ((q2 306 64 (by unfold mSp; omega)).trans h1) ((q2 306 65 (by unfold mSp; omega)).trans h2) (hf.tr q2)
    rw [show ((k + 1 : Nat) : Int) = (k : Int) + 1 by omega] at this
    exact this
theorem runs_loop {X : CX} {d : Nat} {R : PF} {Q : PV → PF → PF → Prop} {I0 D K : PF} {noon dr : Int} {h : Int × Int} {P : Int → Int × Int} (hs : Shp R) (hd : 5 ≤ d) (hG : GD D) (hK : KB D K) (hI : PIn D P) (hq : inQ D h)
    (hQ : ∀ I', FR mSp I0 I' → PosM (D 339 1) (rns D K h (D 339 1).toNat P) I' → PN X d mX11_goes 249 [(2, 306), (9, 0), (9, 0), (9, 0), (0, dr)] [] I' R Q) : ∀ (m k : Nat) (I : PF), (D 339 1).toNat - k < m → (k : Int) ≤ D 339 1 → FlM D K noon I → PosM (D 339 1) (rns D K h k P) I → I 306 64 = h.1 → I 306 65 = h.2 → FR mSp I0 I →
    PN X d mX11_goes 202 [(2, 306), (9, 0), (9, 0), (9, 0), (0, dr), (9, 0), (0, (k : Int))] [] I R Q := by
  intro m
  have hD := hG.2.1
  induction m with
  | zero => intro k I h; exact absurd h (Nat.not_lt_zero _)
  | succ m ih =>
    intro k I hm hk hF hP h1 h2 hf
    have e4 : I 339 4 = D 339 1 := hF.1.2.2.2.1
    refine S_X11_goes_202 (d1 := 0) (by omega) (callee_b (Q := fun v I' R' => v.2 = I 339 4 ∧ I' = I ∧ R' = R) (by decide +kernel) (Nat.le_of_ble_eq_true rfl) rfl (S_X11_personMany_0 hs ⟨rfl, rfl, rfl⟩)) (fun z I1 R1 q => ?_)
    obtain ⟨(hz : z = _), rfl, rfl⟩ := q
    refine S_X11_goes_208 (by omega) (by omega) (fun g => ?_) (fun g => ?_)
    · refine hQ I1 hf ?_
      rw [show (D 339 1).toNat = k by omega]
      exact hP
    refine S_X11_goes_211 ?_
    refine pace_loop (I0 := I1) (P := rns D K h k P) (h := h) hs hd hG hK (rns_in hI k) hq ⟨by omega, by omega⟩ (fun I2 f2 p2 => ?_) _ 0 I1 (Nat.lt_succ_self _) (by have := (hK.2 k (by omega) (by omega)).2.1; omega) hF hP h1 h2 FR.rf
    refine S_X11_goes_243 ?_
    have := ih (k + 1) I2 (by omega) (by omega) (hF.fr (mSp_Fl f2)) p2 ((f2 306 64 (by unfold mSp; omega)).trans h1) ((f2 306 65 (by unfold mSp; omega)).trans h2) (hf.tr f2)
    rw [show ((k + 1 : Nat) : Int) = (k : Int) + 1 by omega] at this
    exact this
