/-! ===== the class reads a part ===== -/
theorem c_isWordSelf {X : CX} {I R : PF} {t : Int → Int} {n w : Int} {q : Int × Bool} (h : Tok t n q I R) (hw : twd t n (skp t n q.1) = w) : CN X 0 mX5_isWord [(2, 67), (2, w)] I R (fun v I' R' => v.2 = bi (isW t n q) ∧ I' = I ∧ R' = R) := by
  refine callee_b (by decide +kernel) (Nat.le_of_ble_eq_true rfl) rfl ?_
  have hk := h.2.2.2.2.1
  have hr := h.2.2.2.2.2.2.2
  have tr := twd_r t n (skp t n q.1)
  refine S_X5_isWord_0 h.r2 (fun g => ?_) (fun g => ?_)
  · exact S_X5_isWord_20 (S_X5_isWord_21 (by decide) ⟨(bi_f (fun c => g (hk.trans (knd_1.mpr c)))).symm, rfl, rfl⟩)
  · refine S_X5_isWord_8 hr (by omega) (by omega) (fun g2 => absurd hw g2) (fun _ => ?_)
    exact S_X5_isWord_16 (S_X5_isWord_21 (by decide) ⟨(bi_t (knd_1.mp (hk.symm.trans g))).symm, rfl, rfl⟩)
theorem wk_tb : ∀ w < 38, 2 ≤ w → ∀ tk < 3, ((Int32.ofInt (sW 3 ((w : Nat) : Int)) &&& Int32.ofInt (wh ((tk : Nat) : Int))).toInt != 0) = (decide (0 ≤ wk (sW 0 ((w : Nat) : Int))) && decide (wk (sW 0 ((w : Nat) : Int)) < 11) && ((tk == 0 && decide (wk (sW 0 ((w : Nat) : Int)) < 2)) || (tk == 1 && decide (wk (sW 0 ((w : Nat) : Int)) < 6)) || (tk == 2 && decide (wk (sW 0 ((w : Nat) : Int)) ≠ 1)))) := by decide +kernel
theorem wk_tab (w : Nat) (h1 : w < 38) (h2 : 2 ≤ w) (tk : Nat) (h3 : tk < 3) : (Int32.ofInt (sW 3 ((w : Nat) : Int)) &&& Int32.ofInt (wh ((tk : Nat) : Int))).toInt ≠ 0 ↔ (0 ≤ wk (sW 0 ((w : Nat) : Int)) ∧ wk (sW 0 ((w : Nat) : Int)) < 11 ∧ ((tk = 0 ∧ wk (sW 0 ((w : Nat) : Int)) < 2) ∨ (tk = 1 ∧ wk (sW 0 ((w : Nat) : Int)) < 6) ∨ (tk = 2 ∧ wk (sW 0 ((w : Nat) : Int)) ≠ 1))) := by
  have h := wk_tb w h1 h2 tk h3
  rw [← bne_iff_ne, h]
  simp only [Bool.and_eq_true, Bool.or_eq_true, decide_eq_true_eq, beq_iff_eq, and_assoc, or_assoc]
theorem al_d {tk : Nat} {k : Int} (h : tk < 3) : al (tk : Int) k ↔ (tk = 0 ∧ k < 2) ∨ (tk = 1 ∧ k < 6) ∨ (tk = 2 ∧ k ≠ 1) := by
  unfold al
  by_cases h0 : (tk : Int) = 0
  · rw [if_pos h0]; omega
  · rw [if_neg h0]
    by_cases h1 : (tk : Int) = 1
    · rw [if_pos h1]; omega
    · rw [if_neg h1]; omega
theorem wk_tab1 : ∀ tk < 3, (Int32.ofInt (sW 3 1) &&& Int32.ofInt (wh ((tk : Nat) : Int))).toInt = 0 := by decide +kernel
theorem wk_fact : ∀ w < 38, 2 ≤ w → (0 ≤ wk (sW 0 ((w : Nat) : Int)) ∧ wk (sW 0 ((w : Nat) : Int)) < 11) → dc (40 + wk (sW 0 ((w : Nat) : Int))) = -1 - sW 2 ((w : Nat) : Int) := by decide +kernel
theorem sW3_r : ∀ w < 38, 1 ≤ w → ∀ tk < 3, inR ((Int32.ofInt (sW 3 ((w : Nat) : Int)) &&& Int32.ofInt (wh ((tk : Nat) : Int))).toInt) := by decide +kernel
theorem wk_in {c : Int} (h : wk c ≠ -1) : ∃ w : Int, 2 ≤ w ∧ w ≤ 37 ∧ c = sW 0 w := by
  unfold wk at h
  repeat' split at h
  all_goals try (rename_i e; subst e)
  · exact ⟨18, by decide, by decide, by decide⟩
  · exact ⟨19, by decide, by decide, by decide⟩
  · exact ⟨9, by decide, by decide, by decide⟩
  · exact ⟨10, by decide, by decide, by decide⟩
  · exact ⟨20, by decide, by decide, by decide⟩
  · exact ⟨21, by decide, by decide, by decide⟩
  · exact ⟨25, by decide, by decide, by decide⟩
  · exact ⟨22, by decide, by decide, by decide⟩
  · exact ⟨23, by decide, by decide, by decide⟩
  · exact ⟨13, by decide, by decide, by decide⟩
  · exact ⟨24, by decide, by decide, by decide⟩
  · exact ⟨12, by decide, by decide, by decide⟩
  · exact absurd rfl h
/-- may the word that is next be a part -/
theorem word_where {t : Int → Int} {n tk w : Int} {q : Int × Bool} (ht : 0 ≤ tk ∧ tk ≤ 2) (hW : isW t n q) (hw : twd t n (skp t n q.1) = w) :
    ((Int32.ofInt (sW 3 w) &&& Int32.ofInt (wh tk)).toInt ≠ 0 ↔ wOf tk 0 11 (tw t n (.inl q)) ≠ -1) ∧ (wOf tk 0 11 (tw t n (.inl q)) ≠ -1 → dc (40 + wOf tk 0 11 (tw t n (.inl q))) = -1 - sW 2 w) := by
  have r := twd_r t n (skp t n q.1)
  rw [hw] at r
  obtain ⟨k, rfl⟩ : ∃ k : Nat, tk = k := ⟨tk.toNat, by omega⟩
  by_cases g : w = 1
  · subst g
    have h0 := wk_tab1 k (by omega)
    have hf : ¬ wOf k 0 11 (tw t n (.inl q)) ≠ -1 := fun c => by
      have c1 := wOf_wk c
      obtain ⟨w', a1, a2, a3⟩ := wk_in (c := tw t n (.inl q)) (by omega)
      have := ((tok_word ⟨a1, a2⟩).mpr a3).2
      omega
    exact ⟨⟨fun c => absurd h0 c, fun c => absurd c hf⟩, fun c => absurd c hf⟩
  · have e : tw t n (.inl q) = sW 0 w := (tok_word (by omega)).mp ⟨knd_1.mpr hW, hw⟩
    obtain ⟨j, rfl⟩ : ∃ j : Nat, w = j := ⟨w.toNat, by omega⟩
    rw [e]
    have h1 := wk_tab j (by omega) (by omega) k (by omega)
    refine ⟨h1.trans ⟨fun c => ?_, fun c => ?_⟩, fun c => ?_⟩
    · have : wOf k 0 11 (sW 0 j) = wk (sW 0 j) := by
        unfold wOf
        exact @if_pos _ (Classical.propDecidable _) (show 0 ≤ wk (sW 0 j) ∧ wk (sW 0 j) < 11 ∧ al k (wk (sW 0 j)) from ⟨c.1, c.2.1, (al_d (by omega)).mpr c.2.2⟩) _ _ _
      rw [this]; omega
    · have c1 := wOf_wk c
      exact ⟨c1.2.1, c1.2.2.1, (al_d (by omega)).mp c1.2.2.2⟩
    · have c1 := wOf_wk c
      rw [c1.1]
      exact wk_fact j (by omega) (by omega) ⟨c1.2.1, c1.2.2.1⟩
theorem tw_n0 {t : Int → Int} {n : Int} {q : Int × Bool} (h : ¬ isW t n q) : tw t n (.inl q) = 0 := if_neg (fun c => h c.1)
theorem wOf_0 (tk : Int) : ¬ wOf tk 0 11 0 ≠ -1 := fun c => by have := wOf_wk c; exact absurd this.2.1 (by decide)
theorem opY_bad {t : Int → Int} {n tk : Int} {q : Int × Bool} {C : List Int} (h : ¬ wOf tk 0 11 (tw t n (.inl q)) ≠ -1) (hn : ¬ isNb t n q) : opY t n tk q C = .inr (1, skp t n q.1) := by
  unfold opY
  rw [if_neg h]
  have : numS t n 0 9999 (.inl q) = .inr (1, skp t n q.1) := if_pos hn
  rw [this]
theorem partB_nb {t : Int → Int} {n tk : Int} {ok : Bool} {S P : (Int × Bool) → List Int → RD} {q : Int × Bool} {C : List Int} (h : isNb t n q) : partB t n tk ok S P q C = match numS t n 0 9999 (.inl q) with
    | .inl q' => .inl (q', (1000 + valN t n q) :: C)
    | .inr f => .inr f := by
  have hd := isD_iff.mp h.2.1
  have e : nxt t n (.inl q) = t (skp t n q.1) := by
    show lkv t n _ = _
    unfold lkv; rw [if_pos h.1]
  have hw : ¬ isW t n q := fun c => isL_D h.2.1 c.2.1
  have h0 := tw_n0 hw
  unfold partB
  rw [if_neg (by omega), if_neg (by omega), if_neg (by omega)]
  unfold opY
  rw [h0, if_neg (wOf_0 tk)]
  cases numS t n 0 9999 (.inl q) <;> rfl
theorem RCon.at {X : CX} {t : Int → Int} {n tk f b : Int} {d : Nat} {md : MD} {p : (Int × Bool) → List Int → RD} (h : RCon X t n tk f b d md p) {I0 R0 I R : PF} {q : Int × Bool} {C : List Int} {m q0 : Int} (hs : Shp R) (hF : FC t n tk f q C b I R) (hm : 0 ≤ m) (hl : (C.length : Int) + m ≤ q.1) (hq : q0 ≤ q.1) (f0 : FR (fF f) I0 I) (r0 : FR sR R0 R) :
    CN X d md [(2, 71)] I R (PPost t n tk f b m q0 I0 R0 (p q C)) := by
  refine (h I R q C m hs hF hm hl).mono (fun v I' R' k => ?_)
  obtain ⟨k1, k2, k3⟩ := k
  refine ⟨?_, f0.tr k2, r0.tr k3⟩
  cases hx : p q C with
  | inl r =>
    rw [hx] at k1
    exact ⟨k1.1, k1.2.1, k1.2.2.1, by have := k1.2.2.2; omega⟩
  | inr fl => rw [hx] at k1; exact k1
noncomputable def pairR (t : Int → Int) (n : Int) (ok : Bool) (S : (Int × Bool) → List Int → RD) (q : Int × Bool) (C : List Int) : RD :=
    (if nxt t n (.inl (run isL t n (skp t n q.1), true)) = 40 then
      (if ok = true then (match S (skp t n (run isL t n (skp t n q.1)) + 1, false) C with
        | .inr f => .inr f
        | .inl r => if nxt t n (.inl r.1) = 44 then
            (match S (skp t n r.1.1 + 1, false) r.2 with
            | .inr f => .inr f
            | .inl r2 => if nxt t n (.inl r2.1) = 41 then .inl ((skp t n r2.1.1 + 1, false), (if tw t n (.inl q) = 191594322 then 5 else 6) :: r2.2) else .inr (1, skp t n r2.1.1))
          else .inr (1, skp t n r.1.1))
      else .inr (4, skp t n (run isL t n (skp t n q.1))))
    else .inr (1, skp t n (run isL t n (skp t n q.1))))
theorem c_pair {X : CX} {d : Nat} {t : Int → Int} {n tk f b m op : Int} {ok : Bool} {S : (Int × Bool) → List Int → RD} {I R : PF} {q : Int × Bool} {C : List Int} (hb : 0 ≤ b ∧ b ≤ 6) (h : ok = true ∧ 0 < b ∧ RCon X t n tk f (b - 1) d mX3_sum S ∨ ok = false ∧ b = 0) (hd2 : 2 ≤ d) (hs : Shp R) (hF : FC t n tk f q C b I R) (hm : 0 ≤ m) (hl : (C.length : Int) + m ≤ q.1)
    (hw : tw t n (.inl q) = 191594322 ∨ tw t n (.inl q) = 187539624) (ho : op = dc (if tw t n (.inl q) = 191594322 then 5 else 6)) : CN X (d + 1) mX3_pair [(2, 71), (0, op)] I R (PPost t n tk f b m q.1 I R (pairR t n ok S q C)) := by
  refine callee_b (by decide +kernel) (Nat.le_of_ble_eq_true rfl) rfl ?_
  have s1 := skp_ge t n q.1
  have q0 := hF.1.1.2.1
  have hw' : ∃ c, tw t n (.inl q) = c ∧ c ≠ 0 := by
    rcases hw with g | g
    · exact ⟨_, g, by decide⟩
    · exact ⟨_, g, by decide⟩
  obtain ⟨c, hc, hc0⟩ := hw'
  have lt := goT_lt (tw_w hc hc0)
  refine S_X3_pair_0 (d1 := 1) hs (by omega) (c_advW hs hF.1 hc hc0) (fun z I1 R1 p => ?_)
  obtain ⟨p1, -, p3, p4⟩ := p
  have F1 := hF.scan p1 p3 p4
  have hs1 := hs.fr (sR_mR p4)
  have s2 := skp_ge t n (run isL t n (skp t n q.1))
  have f1 := sF_f (f := f) p3
  refine S_X3_pair_7 (d1 := 0) hs1 (by omega) (c_isSign F1.1.1 (c := 40) (by unfold sgn; omega) (by decide)) (fun z I2 R2 q2 => ?_)
  obtain ⟨(hz : z = _), rfl, rfl⟩ := q2
  have br := bi_r (nxt t n (.inl (run isL t n (skp t n q.1), true)) = 40)
  unfold pairR
  refine S_X3_pair_16 (by omega) (fun g => ?_) (fun g => ?_)
  rotate_left
  · rw [if_neg (bi_0 (hz.symm.trans g))]
    refine S_X3_pair_19 (d1 := 0) hs1 (by omega) (c_refuse F1.1 (by decide)) (fun z I3 R3 p => ?_)
    obtain ⟨(k1 : z = 0), k2, k3, rfl⟩ := p
    rw [F1.1.1.2.2.2.1] at k2
    exact S_X3_pair_34 (by omega) ⟨⟨k1, k2⟩, f1.tr (sF_f k3), p4⟩
  have g40 := bi_1 (by rw [← hz]; exact g)
  rw [if_pos g40]
  have hn := lkv_n (t := t) (n := n) (a := skp t n (run isL t n (skp t n q.1))) g40 (by decide)
  refine S_X3_pair_35 (d1 := 2) (by omega) (c_opens hs1 F1 hb) (fun z I3 R3 p => ?_)
  obtain ⟨k1, k2, k3⟩ := p
  have f3 := f1.tr k2
  have r3 := p4.tr k3
  have hs3 := hs1.fr (sR_mR k3)
  rcases k1 with ⟨b0, (z0 : z = 0), k4⟩ | ⟨b1, (z1 : z = 1), k4⟩
  · refine S_X3_pair_39 (by omega) (fun _ => ?_) (fun g => absurd z0 g)
    have : ok = false := by rcases h with h | h; omega; exact h.1
    rw [this, if_neg (by decide)]
    exact S_X3_pair_77 ⟨⟨rfl, k4⟩, f3, r3⟩
  refine S_X3_pair_39 (by omega) (fun g => by omega) (fun _ => ?_)
  have hok : ok = true ∧ RCon X t n tk f (b - 1) d mX3_sum S := by rcases h with h | h; exact ⟨h.1, h.2.2⟩; omega
  obtain ⟨rfl, hS⟩ := hok
  rw [if_pos rfl]
  rw [behT_S (c := 40) (by unfold sgn; omega) g40] at k4
  refine S_X3_pair_42 (d1 := d) (by omega) (hS.at (m := m) (q0 := q.1) hs3 k4 hm (by simp only; omega) (by simp only; omega) f3 r3) (fun z I4 R4 p5 => ?_)
  obtain ⟨p5, f4, r4⟩ := p5
  have vr := p5.r
  simp only at p5 vr
  have hs4 := hs.fr (sR_mR r4)
  refine S_X3_pair_46 (by omega) (fun g => ?_) (fun g => ?_)
  · obtain ⟨fl, e1, e2⟩ := p5.z g
    rw [e1]
    exact S_X3_pair_77 ⟨⟨rfl, e2⟩, f4, r4⟩
  obtain ⟨r, e1, e2, e3, e4⟩ := p5.o g
  rw [e1]
  simp only
  have s3 := skp_ge t n r.1.1
  refine S_X3_pair_49 (d1 := 2) hs4 (by omega) (c_takeSign hs4 e2.1 (c := 44) (by unfold sgn; omega) (by decide)) (fun z I5 R5 p => ?_)
  obtain ⟨(hz5 : z = _), p6, p7, p8⟩ := p
  have hs5 := hs4.fr (sR_mR p8)
  have f5 := f4.tr (sF_f p7)
  have r5 := r4.tr p8
  have br5 := bi_r (nxt t n (.inl r.1) = 44)
  refine S_X3_pair_58 (by omega) (fun g => ?_) (fun g => ?_)
  · have g' := bi_0 (hz5.symm.trans g)
    rw [if_neg g']
    unfold askS at p6
    rw [if_neg g'] at p6
    exact S_X3_pair_77 ⟨⟨rfl, p6⟩, f5, r5⟩
  have g44 := bi_1 (by rw [← hz5]; exact g)
  rw [if_pos g44]
  unfold askS at p6
  rw [if_pos g44] at p6
  have F5 := e2.scan p6 p7 p8
  refine S_X3_pair_61 (d1 := d) (by omega) (hS.at (m := m + 1) (q0 := q.1) hs5 F5 (by omega) (by simp only; omega) (by simp only; omega) f5 r5) (fun z I6 R6 p9 => ?_)
  obtain ⟨p9, f6, r6⟩ := p9
  have vr6 := p9.r
  simp only at p9 vr6
  have hs6 := hs.fr (sR_mR r6)
  refine S_X3_pair_65 (by omega) (fun g => ?_) (fun g => ?_)
  · obtain ⟨fl, e1, e2⟩ := p9.z g
    rw [e1]
    exact S_X3_pair_77 ⟨⟨rfl, e2⟩, f6, r6⟩
  obtain ⟨r2, e5, e6, e7, e8⟩ := p9.o g
  rw [e5]
  simp only
  have s4 := skp_ge t n r2.1.1
  refine S_X3_pair_68 (d1 := 2) (by omega) (c_closes hs6 e6 (by omega) (c := 41) (by unfold sgn; omega) (by decide)) (fun z I7 R7 p => ?_)
  obtain ⟨k5, k6, k7⟩ := p
  have f7 := f6.tr k6
  have r7 := r6.tr k7
  have hs7 := hs6.fr (sR_mR k7)
  rcases k5 with ⟨g41, (z0 : z = 0), k8⟩ | ⟨g41, (z1 : z = 1), k8⟩
  · rw [if_neg g41]
    refine S_X3_pair_74 (by omega) (fun g => absurd z0 g) (fun _ => ?_)
    exact S_X3_pair_77 ⟨⟨rfl, k8⟩, f7, r7⟩
  rw [if_pos g41]
  rw [Int.sub_add_cancel] at k8
  refine S_X3_pair_74 (by omega) (fun _ => ?_) (fun g => by omega)
  have kn := k8.1.1.2.2.1
  have n16 := k8.1.1.1.2.2.2.1
  simp only at kn
  refine S_X3_pair_79 (d1 := 0) k8.2.1 (by omega) (c_addC hs7 k8 (by omega) ho) k8.2.2.1 (fun z I8 R8 p => ?_)
  obtain ⟨k9, k10, rfl⟩ := p
  exact S_X3_pair_87 ⟨⟨rfl, k9, by simp only [List.length_cons]; omega, by simp only; omega⟩, f7.tr k10, r7⟩
theorem dc_num {v : Int} (h : 0 ≤ v) : v = dc (1000 + v) := by unfold dc; rw [if_pos (by omega)]; omega
theorem c_part {X : CX} {d dP : Nat} {t : Int → Int} {n tk f b : Int} {ok : Bool} {S P : (Int × Bool) → List Int → RD} (ht : 0 ≤ tk ∧ tk ≤ 2) (hb : 0 ≤ b ∧ b ≤ 6) (h : ok = true ∧ 0 < b ∧ RCon X t n tk f (b - 1) d mX3_sum S ∧ RCon X t n tk f (b - 1) dP mX3_part P ∨ ok = false ∧ b = 0) (hd2 : 2 ≤ d) (hdP : dP ≤ d + 1) :
    RCon X t n tk f b (d + 2) mX3_part (partB t n tk ok S P) := by
  intro I R q C m hs hF hm hl
  refine callee_b (by decide +kernel) (Nat.le_of_ble_eq_true rfl) rfl ?_
  have s1 := skp_ge t n q.1
  have q0 := hF.1.1.2.1
  have qn := hF.1.1.2.2.1
  have n16 := hF.1.1.1.2.2.2.1
  have tok := hF.1.1
  refine S_X3_part_0 (d1 := 0) hs (by omega) (c_isNumber tok) (fun z I2 R2 p => ?_)
  obtain ⟨(hz : z = _), rfl, rfl⟩ := p
  have br := bi_r (isNb t n q)
  refine S_X3_part_7 (by omega) (fun g => ?_) (fun g => ?_)
  rotate_left
  · have hNb : isNb t n q := bi_1 (by rw [← hz]; exact g)
    rw [partB_nb hNb]
    refine S_X3_part_10 (d1 := 2) hs (by omega) (c_takeNumber hs hF.1 (by decide) (by decide)) (fun z I3 R3 p => ?_)
    obtain ⟨k1, k2, k3⟩ := p
    have hs3 := hs.fr (sR_mR k3)
    obtain ⟨⟨n1, n2, n3, -⟩, m1, m2, m3, -⟩ := fm_ne hF.2.2.1
    unfold NRes at k1
    cases hn : numS t n 0 9999 (.inl q) with
    | inl q' =>
      rw [hn] at k1
      obtain ⟨(k4 : z = _), k5, k6, -, k7⟩ := k1
      simp only at k5 k6
      have F3 := hF.scan k7 k2 k3
      have hlt := num_lt hn
      have q'n := F3.1.1.2.2.1
      have e : z = dc (1000 + valN t n q) := by rw [k4]; exact dc_num (by omega)
      refine S_X3_part_21 (d1 := 0) F3.2.1 (by omega) (c_addC hs3 F3 (by omega) e) F3.2.2.1 (fun z9 I4 R4 p => ?_)
      obtain ⟨p1, p2, rfl⟩ := p
      refine S_X3_part_30 (by omega) (fun g => by omega) (fun _ => ?_)
      exact S_X3_part_35 (S_X3_part_40 (by omega) ⟨⟨rfl, p1, by simp only [List.length_cons]; omega, by simp only; omega⟩, (sF_f k2).tr p2, k3⟩)
    | inr fl =>
      rw [hn] at k1
      obtain ⟨(k4 : z = _), k7⟩ := k1
      have len := hF.len
      have rf : R3 71 1 = f := (k3 71 1 (fun c => by unfold sR at c; omega)).trans hF.2.1
      have l3 : I3 f 2 = C.length := (k2 f 2 (fun c => by unfold sF at c; omega)).trans len
      refine S_X3_part_21 (d1 := 0) rf (by omega) (c_add hs3 hF.2.2.1 (by omega)) hF.2.2.1 (fun z9 I4 R4 p => ?_)
      obtain ⟨p1, p2, rfl⟩ := p
      refine S_X3_part_30 (by omega) (fun _ => ?_) (fun g => absurd k4 g)
      have p2' : FR (fF f) I3 I4 := p2.mono (fun a j c => c.elim (fun c => Or.inr (Or.inr (Or.inl c))) (fun c => Or.inr (Or.inr (Or.inr c))))
      refine S_X3_part_39 (S_X3_part_40 (by omega) ⟨⟨rfl, k7.fr (funext fun j => p2 67 j (fun c => by omega)) (funext fun j => p2 65 j (fun c => by omega))⟩, (sF_f k2).tr p2', k3⟩)
  have hNb : ¬ isNb t n q := bi_0 (hz.symm.trans g)
  refine S_X3_part_41 (d1 := 0) hs (by omega) (c_isSign tok (c := 40) (by unfold sgn; omega) (by decide)) (fun z I3 R3 q2 => ?_)
  obtain ⟨(hz : z = _), rfl, rfl⟩ := q2
  have br := bi_r (nxt t n (.inl q) = 40)
  unfold partB
  refine S_X3_part_50 (by omega) (fun g => ?_) (fun g => ?_)
  rotate_left
  · have g40 := bi_1 (by rw [← hz]; exact g)
    rw [if_pos g40]
    have hn := lkv_n (t := t) (n := n) (a := skp t n q.1) g40 (by decide)
    refine S_X3_part_53 (d1 := 2) (by omega) (c_opens hs hF hb) (fun z I4 R4 p => ?_)
    obtain ⟨k1, k2, k3⟩ := p
    have hs4 := hs.fr (sR_mR k3)
    rcases k1 with ⟨b0, (z0 : z = 0), k4⟩ | ⟨b1, (z1 : z = 1), k4⟩
    · refine S_X3_part_57 (by omega) (fun _ => ?_) (fun g => absurd z0 g)
      have : ok = false := by rcases h with h | h; omega; exact h.1
      rw [this, if_neg (by decide)]
      exact S_X3_part_80 (S_X3_part_81 (by omega) ⟨⟨rfl, k4⟩, k2, k3⟩)
    refine S_X3_part_57 (by omega) (fun g => by omega) (fun _ => ?_)
    have hok : ok = true ∧ RCon X t n tk f (b - 1) d mX3_sum S := by rcases h with h | h; exact ⟨h.1, h.2.2.1⟩; omega
    obtain ⟨rfl, hS⟩ := hok
    rw [if_pos rfl]
    rw [behT_S (c := 40) (by unfold sgn; omega) g40] at k4
    refine S_X3_part_60 (d1 := d) (by omega) (hS.at (m := m) (q0 := q.1) hs4 k4 hm (by simp only; omega) (by simp only; omega) k2 k3) (fun z I5 R5 p5 => ?_)
    obtain ⟨p5, f5, r5⟩ := p5
    have vr := p5.r
    simp only at p5 vr
    have hs5 := hs.fr (sR_mR r5)
    refine S_X3_part_64 (by omega) (fun g => ?_) (fun g => ?_)
    · obtain ⟨fl, e1, e2⟩ := p5.z g
      rw [e1]
      exact S_X3_part_80 (S_X3_part_81 (by omega) ⟨⟨rfl, e2⟩, f5, r5⟩)
    obtain ⟨r, e1, e2, e3, e4⟩ := p5.o g
    rw [e1]
    simp only
    have s3 := skp_ge t n r.1.1
    refine S_X3_part_67 (d1 := 2) (by omega) (c_closes hs5 e2 (by omega) (c := 41) (by unfold sgn; omega) (by decide)) (fun z I6 R6 p => ?_)
    obtain ⟨k5, k6, k7⟩ := p
    rcases k5 with ⟨g41, (z0 : z = 0), k8⟩ | ⟨g41, (z1 : z = 1), k8⟩
    · rw [if_neg g41]
      refine S_X3_part_73 (by omega) (fun _ => ?_) (fun g => absurd z0 g)
      exact S_X3_part_80 (S_X3_part_81 (by omega) ⟨⟨rfl, k8⟩, f5.tr k6, r5.tr k7⟩)
    rw [if_pos g41]
    rw [Int.sub_add_cancel] at k8
    refine S_X3_part_73 (by omega) (fun g => by omega) (fun _ => ?_)
    exact S_X3_part_76 (S_X3_part_81 (by omega) ⟨⟨rfl, k8, by simp only; omega, by simp only; omega⟩, f5.tr k6, r5.tr k7⟩)
  have n40 := bi_0 (hz.symm.trans g)
  rw [if_neg n40]
  have cmin : sW 0 30 = 191594322 := by decide
  have cmax : sW 0 31 = 187539624 := by decide
  have cspin : sW 0 12 = 281319642 := by decide
  have hpair : (tw t n (.inl q) = 191594322 ∨ tw t n (.inl q) = 187539624) → PN X (d + 2) mX3_part 108 [(2, 71)] [] I3 R3 (PPost t n tk f b m q.1 I3 R3 (if tw t n (.inl q) = 191594322 ∨ tw t n (.inl q) = 187539624 then pairR t n ok S q C else if tk = 2 ∧ tw t n (.inl q) = 281319642 then
    (if ok = true then (match P (run isL t n (skp t n q.1), true) C with
      | .inr f => .inr f
      | .inl r => .inl (r.1, 60 :: r.2))
    else .inr (4, skp t n q.1))
    else opY t n tk q C)) := fun hw => by
    rw [if_pos hw]
    refine S_X3_part_108 (d1 := 0) hs (by omega) (c_isWord tok (w := 30) (by decide)) (fun z I4 R4 p => ?_)
    obtain ⟨(hz4 : z = _), rfl, rfl⟩ := p
    rw [cmin] at hz4
    have br4 := bi_r (tw t n (.inl q) = 191594322)
    have hh : ok = true ∧ 0 < b ∧ RCon X t n tk f (b - 1) d mX3_sum S ∨ ok = false ∧ b = 0 := by
      rcases h with h | h
      · exact Or.inl ⟨h.1, h.2.1, h.2.2.1⟩
      · exact Or.inr h
    have go : ∀ op : Int, op = dc (if tw t n (.inl q) = 191594322 then 5 else 6) → PN X (d + 2) mX3_part 129 [] [(0, op), (2, 71)] I4 R4 (PPost t n tk f b m q.1 I4 R4 (pairR t n ok S q C)) := fun op hop => by
      refine S_X3_part_129 (d1 := d + 1) (by omega) (c_pair hb hh hd2 hs hF hm hl hw hop) (fun z I5 R5 p5 => ?_)
      exact S_X3_part_132 p5.1.r p5
    refine S_X3_part_119 (by omega) (fun g => ?_) (fun g => ?_)
    · refine S_X3_part_127 (go _ ?_)
      rw [if_neg (bi_0 (hz4.symm.trans g))]; decide
    · refine S_X3_part_122 (go _ ?_)
      rw [if_pos (bi_1 (by rw [← hz4]; exact g))]; decide
  refine S_X3_part_82 (d1 := 0) hs (by omega) (c_isWord tok (w := 30) (by decide)) (fun z I4 R4 p => ?_)
  obtain ⟨(hz : z = _), rfl, rfl⟩ := p
  rw [cmin] at hz
  have br := bi_r (tw t n (.inl q) = 191594322)
  refine S_X3_part_92 (by omega) (fun g => hpair (Or.inl (bi_1 (by rw [← hz]; exact g)))) (fun g => ?_)
  have nmin := bi_0 (hz.symm.trans g)
  refine S_X3_part_95 (d1 := 0) hs (by omega) (c_isWord tok (w := 31) (by decide)) (fun z I5 R5 p => ?_)
  obtain ⟨(hz : z = _), rfl, rfl⟩ := p
  rw [cmax] at hz
  have br := bi_r (tw t n (.inl q) = 187539624)
  refine S_X3_part_105 (by omega) (fun g => ?_) (fun g => hpair (Or.inr (bi_1 (by rw [← hz]; exact g))))
  have nmax := bi_0 (hz.symm.trans g)
  rw [if_neg (fun c => c.elim nmin nmax)]
  have w4 : wh tk = 4 ↔ tk = 2 := by unfold wh; repeat' split <;> omega
  have hop : ¬ (tk = 2 ∧ tw t n (.inl q) = 281319642) → PN X (d + 2) mX3_part 191 [(2, 71)] [] I5 R5 (PPost t n tk f b m q.1 I5 R5 (if tk = 2 ∧ tw t n (.inl q) = 281319642 then
    (if ok = true then (match P (run isL t n (skp t n q.1), true) C with
      | .inr f => .inr f
      | .inl r => .inl (r.1, 60 :: r.2))
    else .inr (4, skp t n q.1))
    else opY t n tk q C)) := fun hns => by
    rw [if_neg hns]
    have hr := tok.2.2.2.2.2.2.2
    have tr := twd_r t n (skp t n q.1)
    have bad : ¬ wOf tk 0 11 (tw t n (.inl q)) ≠ -1 → PN X (d + 2) mX3_part 222 [(2, 71)] [] I5 R5 (PPost t n tk f b m q.1 I5 R5 (opY t n tk q C)) := fun c => by
      rw [opY_bad c hNb]
      refine S_X3_part_222 (d1 := 0) hs (by omega) (c_refuse hF.1 (by decide)) (fun z I3 R3 p => ?_)
      obtain ⟨(k1 : z = 0), k2, k3, rfl⟩ := p
      rw [tok.2.2.2.1] at k2
      exact S_X3_part_237 (by omega) ⟨⟨k1, k2⟩, sF_f k3, FR.rf⟩
    refine S_X3_part_191 (d1 := 0) hs hr (by omega) (c_isWordSelf tok rfl) (fun z I6 R6 p => ?_)
    obtain ⟨(hz : z = _), rfl, rfl⟩ := p
    have br := bi_r (isW t n q)
    refine S_X3_part_207 (by omega) (fun g => bad (by rw [tw_n0 (bi_0 (hz.symm.trans g))]; exact wOf_0 tk)) (fun g => ?_)
    have hW : isW t n q := bi_1 (by rw [← hz]; exact g)
    obtain ⟨ww1, ww2⟩ := word_where (tk := tk) ht hW rfl
    have e71 := hF.2.2.2.1
    have rr : inR ((Int32.ofInt (sW 3 (twd t n (skp t n q.1))) &&& Int32.ofInt (I6 71 2)).toInt) := by
      rw [e71]
      have := sW3_r (twd t n (skp t n q.1)).toNat (by omega) (by omega) tk.toNat (by omega)
      rw [show (((twd t n (skp t n q.1)).toNat : Nat) : Int) = twd t n (skp t n q.1) by omega, show ((tk.toNat : Nat) : Int) = tk by omega] at this
      exact this
    refine S_X3_part_210 tr rr (fun g2 => ?_) (fun g2 => bad (fun c => ww1.mpr c (by rw [← e71]; exact g2)))
    rw [e71] at g2
    have gw := ww1.mp g2
    have gk := wOf_wk gw
    have hne : tw t n (.inl q) ≠ 0 := fun c => by rw [c] at gw; exact wOf_0 tk gw
    have lt := goT_lt hW
    have eo : opY t n tk q C = .inl ((run isL t n (skp t n q.1), true), (40 + wOf tk 0 11 (tw t n (.inl q))) :: C) := if_pos gw
    rw [eo]
    refine S_X3_part_238 (d1 := 1) hs (by omega) (c_advW hs hF.1 rfl hne) (fun z I7 R7 p => ?_)
    obtain ⟨p1, -, p3, p4⟩ := p
    have F7 := hF.scan p1 p3 p4
    have hs7 := hs.fr (sR_mR p4)
    have c_addFact : CN X 1 mX2_addFact [(2, f), (0, sW 2 (twd t n (skp t n q.1)))] I7 R7 (fun _ I' R' => FC t n tk f (run isL t n (skp t n q.1), true) ((40 + wOf tk 0 11 (tw t n (.inl q))) :: C) b I' R' ∧ FR (fF f) I7 I' ∧ R' = R7) := by
      refine callee_b (by decide +kernel) (Nat.le_of_ble_eq_true rfl) rfl ?_
      refine S_X2_addFact_0 (d1 := 0) (by omega) (c_addC hs7 F7 (by omega) (ww2 gw).symm) hF.2.2.1 (fun z I8 R8 p => ?_)
      exact S_X2_addFact_7 p
    refine S_X3_part_245 (d1 := 1) F7.2.1 tr (by omega) c_addFact hF.2.2.1 (fun z I8 R8 p => ?_)
    obtain ⟨k1, k2, rfl⟩ := p
    exact S_X3_part_256 ⟨⟨rfl, k1, by simp only [List.length_cons]; omega, by simp only; omega⟩, (sF_f p3).tr k2, p4⟩
  refine S_X3_part_133 (d1 := 0) hs (by omega) (c_isWord tok (w := 12) (by decide)) (fun z I6 R6 p => ?_)
  obtain ⟨(hz : z = _), rfl, rfl⟩ := p
  rw [cspin] at hz
  have br := bi_r (tw t n (.inl q) = 281319642)
  refine S_X3_part_143 (by omega) (fun g => hop (fun c => bi_0 (hz.symm.trans g) c.2)) (fun g => ?_)
  have gs := bi_1 (by rw [← hz]; exact g)
  have e71 := hF.2.2.2.1
  have whr : 1 ≤ wh tk ∧ wh tk ≤ 4 := by unfold wh; repeat' split <;> omega
  refine S_X3_part_146 (by omega) (fun g2 => hop (fun c => g2 (e71.trans (w4.mpr c.1)))) (fun g2 => ?_)
  have tk2 := w4.mp (e71.symm.trans g2)
  rw [if_pos ⟨tk2, gs⟩]
  have lt := goT_lt (tw_w gs (by decide))
  refine S_X3_part_154 (d1 := 2) (by omega) (c_opens hs hF hb) (fun z I4 R4 p => ?_)
  obtain ⟨k1, k2, k3⟩ := p
  have hs4 := hs.fr (sR_mR k3)
  rcases k1 with ⟨b0, (z0 : z = 0), k4⟩ | ⟨b1, (z1 : z = 1), k4⟩
  · refine S_X3_part_158 (by omega) (fun _ => ?_) (fun g => absurd z0 g)
    have : ok = false := by rcases h with h | h; omega; exact h.1
    rw [this, if_neg (by decide)]
    exact S_X3_part_168 ⟨⟨rfl, k4⟩, k2, k3⟩
  refine S_X3_part_158 (by omega) (fun g => by omega) (fun _ => ?_)
  have hok : ok = true ∧ RCon X t n tk f (b - 1) dP mX3_part P := by rcases h with h | h; exact ⟨h.1, h.2.2.2⟩; omega
  obtain ⟨rfl, hS⟩ := hok
  rw [if_pos rfl]
  rw [behT_W (tw_w gs (by decide))] at k4
  refine S_X3_part_161 (d1 := dP) (by omega) (hS.at (m := m + 1) (q0 := q.1) hs4 k4 (by omega) (by simp only; omega) (by simp only; omega) k2 k3) (fun z I5 R5 p5 => ?_)
  obtain ⟨p5, f5, r5⟩ := p5
  have vr := p5.r
  simp only at p5 vr
  have hs5 := hs.fr (sR_mR r5)
  refine S_X3_part_165 (by omega) (fun g => ?_) (fun g => ?_)
  rotate_left
  · obtain ⟨fl, e1, e2⟩ := p5.z g
    rw [e1]
    exact S_X3_part_168 ⟨⟨rfl, e2⟩, f5, r5⟩
  obtain ⟨r, e1, e2, e3, e4⟩ := p5.o g
  rw [e1]
  simp only
  obtain ⟨⟨n1, n2, n3, -⟩, m1, m2, m3, -⟩ := fm_ne e2.2.2.1
  have rn := e2.1.1.2.2.1
  have e2' := e2
  obtain ⟨a1, a2, a3, a4, a5, a6⟩ := e2'
  have e3' : (u2 I5 71 3 (I5 71 3 - 1)) 71 3 = 6 - b := by rw [u2_at]; omega
  have h2 : FC t n tk f r.1 r.2 b (u2 I5 71 3 (I5 71 3 - 1)) R5 := ⟨a1.fr (u2_row (by decide)) (u2_row (by decide)), a2, a3, by rw [u2_j (by decide)]; exact a4, e3', by rw [u2_o (by omega)]; exact a6.row (u2_row (by omega))⟩
  refine S_X3_part_170 (d1 := 0) h2.2.1 (by omega) (c_addC (op := 60) hs5 h2 (by omega) (by decide)) h2.2.2.1 (fun z I8 R8 p => ?_)
  obtain ⟨k1, k2, rfl⟩ := p
  exact S_X3_part_189 ⟨⟨rfl, k1, by simp only [List.length_cons]; omega, by simp only; omega⟩, (f5.tr (FR_u2 (Or.inr (Or.inl ⟨rfl, rfl⟩)))).tr k2, r5⟩
