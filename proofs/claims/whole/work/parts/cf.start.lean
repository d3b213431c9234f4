/-! ===== what stands at the entry ===== -/
theorem lwp1 {w : Cond} (j : Nat) (h : tables_1_1[j]? = some w) : w ∈ lw_tbl := List.mem_append_right _ (List.mem_append_left _ (List.mem_of_getElem? h))
theorem lwp2 {w : Cond} (j : Nat) (h : tables_1_2[j]? = some w) : w ∈ lw_tbl := List.mem_append_right _ (List.mem_append_right _ (List.mem_append_left _ (List.mem_of_getElem? h)))
theorem lwp3 {w : Cond} (j : Nat) (h : tables_1_3[j]? = some w) : w ∈ lw_tbl := List.mem_append_right _ (List.mem_append_right _ (List.mem_append_right _ (List.mem_append_left _ (List.mem_of_getElem? h))))
theorem lwp4 {w : Cond} (j : Nat) (h : tables_1_4[j]? = some w) : w ∈ lw_tbl := List.mem_append_right _ (List.mem_append_right _ (List.mem_append_right _ (List.mem_append_right _ (List.mem_append_left _ (List.mem_of_getElem? h)))))
theorem lwp5 {w : Cond} (j : Nat) (h : tables_1_5[j]? = some w) : w ∈ lw_tbl := List.mem_append_right _ (List.mem_append_right _ (List.mem_append_right _ (List.mem_append_right _ (List.mem_append_right _ (List.mem_append_left _ (List.mem_of_getElem? h))))))
theorem lwp6 {w : Cond} (j : Nat) (h : tables_1_6[j]? = some w) : w ∈ lw_tbl := List.mem_append_right _ (List.mem_append_right _ (List.mem_append_right _ (List.mem_append_right _ (List.mem_append_right _ (List.mem_append_right _ (List.mem_append_left _ (List.mem_of_getElem? h)))))))
theorem lwp7 {w : Cond} (j : Nat) (h : tables_1_7[j]? = some w) : w ∈ lw_tbl := List.mem_append_right _ (List.mem_append_right _ (List.mem_append_right _ (List.mem_append_right _ (List.mem_append_right _ (List.mem_append_right _ (List.mem_append_right _ (List.mem_append_left _ (List.mem_of_getElem? h))))))))
theorem lwp8 {w : Cond} (j : Nat) (h : tables_1_8[j]? = some w) : w ∈ lw_tbl := List.mem_append_right _ (List.mem_append_right _ (List.mem_append_right _ (List.mem_append_right _ (List.mem_append_right _ (List.mem_append_right _ (List.mem_append_right _ (List.mem_append_right _ (List.mem_append_left _ (List.mem_of_getElem? h)))))))))
theorem lwp9 {w : Cond} (j : Nat) (h : tables_1_9[j]? = some w) : w ∈ lw_tbl := List.mem_append_right _ (List.mem_append_right _ (List.mem_append_right _ (List.mem_append_right _ (List.mem_append_right _ (List.mem_append_right _ (List.mem_append_right _ (List.mem_append_right _ (List.mem_append_right _ (List.mem_of_getElem? h)))))))))
theorem nl {a b : Cond} {args : Array Value} {s : State} (h : (Cond.and a b).before args s = true) : a.before args s = true := by
  rw [Cond.before_and] at h
  exact ((Bool.and_eq_true _ _).mp h).1
theorem nr {a b : Cond} {args : Array Value} {s : State} (h : (Cond.and a b).before args s = true) : b.before args s = true := by
  rw [Cond.before_and] at h
  exact ((Bool.and_eq_true _ _).mp h).2
theorem en_cast {t : Term} {x y : Int32} {args : Array Value} {s : State} (e : x = y) (h : (Cond.eq t (.int x)).before args s = true) : (Cond.eq t (.int y)).before args s = true := e ▸ h
theorem en_hl {args : Array Value} {s : State} (h : ∀ w ∈ lw_tbl, w.before args s = true) : ∀ i, i < 37 → (Cond.laysStatic "NoonHat$Word" (wNm.getD i "") "LNoonHat$Word;").before args s = true := by
  intro i hi
  match i, hi with
  | 0, _ => exact h _ (lwp1 33 rfl)
  | 1, _ => exact h _ (lwp2 225 rfl)
  | 2, _ => exact h _ (lwp3 3 rfl)
  | 3, _ => exact h _ (lwp3 5 rfl)
  | 4, _ => exact h _ (lwp3 7 rfl)
  | 5, _ => exact h _ (lwp3 25 rfl)
  | 6, _ => exact h _ (lwp3 54 rfl)
  | 7, _ => exact h _ (lwp3 60 rfl)
  | 8, _ => exact h _ (lwp3 86 rfl)
  | 9, _ => exact h _ (lwp3 88 rfl)
  | 10, _ => exact h _ (lwp3 90 rfl)
  | 11, _ => exact h _ (lwp3 101 rfl)
  | 12, _ => exact h _ (lwp3 103 rfl)
  | 13, _ => exact h _ (lwp3 105 rfl)
  | 14, _ => exact h _ (lwp3 111 rfl)
  | 15, _ => exact h _ (lwp3 178 rfl)
  | 16, _ => exact h _ (lwp3 208 rfl)
  | 17, _ => exact h _ (lwp9 74 rfl)
  | 18, _ => exact h _ (lwp9 75 rfl)
  | 19, _ => exact h _ (lwp9 76 rfl)
  | 20, _ => exact h _ (lwp9 77 rfl)
  | 21, _ => exact h _ (lwp9 78 rfl)
  | 22, _ => exact h _ (lwp9 79 rfl)
  | 23, _ => exact h _ (lwp9 80 rfl)
  | 24, _ => exact h _ (lwp9 81 rfl)
  | 25, _ => exact h _ (lwp3 206 rfl)
  | 26, _ => exact h _ (lwp3 204 rfl)
  | 27, _ => exact h _ (lwp3 196 rfl)
  | 28, _ => exact h _ (lwp3 198 rfl)
  | 29, _ => exact h _ (lwp3 162 rfl)
  | 30, _ => exact h _ (lwp3 165 rfl)
  | 31, _ => exact h _ (lwp5 89 rfl)
  | 32, _ => exact h _ (lwp5 91 rfl)
  | 33, _ => exact h _ (lwp5 93 rfl)
  | 34, _ => exact h _ (lwp5 95 rfl)
  | 35, _ => exact h _ (lwp5 97 rfl)
  | 36, _ => exact h _ (lwp5 99 rfl)
  | i + 37, hi => exact absurd hi (by omega)
theorem en_ex {args : Array Value} {s : State} (h : narrow_1.before args s = true) : ∀ i, i < 37 → (Cond.exactly (.static "NoonHat$Word" (wNm.getD i "") "LNoonHat$Word;") "NoonHat$Word").before args s = true := by
  intro i hi
  match i, hi with
  | 0, _ => exact (nl (nr (nl (nl (nl (nl (nl (nl h))))))))
  | 1, _ => exact (nr (nr (nr (nl (nr (nl (nr (nl (nl h)))))))))
  | 2, _ => exact (nl (nl (nl (nl (nr (nr (nl (nl h))))))))
  | 3, _ => exact (nl (nr (nr (nl (nr (nr (nl (nl h))))))))
  | 4, _ => exact (nl (nr (nr (nl (nr (nr (nr (nl (nl h)))))))))
  | 5, _ => exact (nr (nr (nr (nr (nr (nr (nr (nl (nl h)))))))))
  | 6, _ => exact (nr (nl (nr (nl (nl (nl (nr (nl h))))))))
  | 7, _ => exact (nl (nr (nl (nr (nl (nl (nr (nl h))))))))
  | 8, _ => exact (nl (nr (nr (nr (nr (nl (nl (nr (nl h)))))))))
  | 9, _ => exact (nl (nl (nr (nl (nr (nl (nr (nl h))))))))
  | 10, _ => exact (nr (nl (nl (nr (nr (nl (nr (nl h))))))))
  | 11, _ => exact (nl (nr (nr (nr (nr (nl (nr (nl h))))))))
  | 12, _ => exact (nr (nr (nl (nl (nl (nr (nr (nl h))))))))
  | 13, _ => exact (nl (nl (nl (nr (nl (nr (nr (nl h))))))))
  | 14, _ => exact (nr (nl (nr (nr (nl (nr (nr (nl h))))))))
  | 15, _ => exact (nl (nl (nr (nr (nr (nr (nr (nl h))))))))
  | 16, _ => exact (nl (nr (nr (nr (nl (nr (nl (nl (nr h)))))))))
  | 17, _ => exact (nl (nr (nr (nl (nr (nl (nr (nr h))))))))
  | 18, _ => exact (nl (nr (nr (nl (nr (nr (nl (nr (nr h)))))))))
  | 19, _ => exact (nr (nr (nr (nr (nr (nr (nl (nr (nr h)))))))))
  | 20, _ => exact (nr (nl (nr (nl (nl (nr (nr (nr h))))))))
  | 21, _ => exact (nl (nr (nl (nr (nl (nr (nr (nr h))))))))
  | 22, _ => exact (nl (nr (nr (nr (nr (nl (nr (nr (nr h)))))))))
  | 23, _ => exact (nl (nl (nr (nl (nr (nr (nr (nr h))))))))
  | 24, _ => exact (nr (nl (nl (nr (nr (nr (nr (nr h))))))))
  | 25, _ => exact (nr (nl (nl (nl (nr (nl (nl (nr h))))))))
  | 26, _ => exact (nl (nl (nr (nr (nl (nl (nl (nr h))))))))
  | 27, _ => exact (nr (nl (nl (nl (nl (nl (nl (nr h))))))))
  | 28, _ => exact (nl (nr (nr (nr (nl (nl (nl (nl (nr h)))))))))
  | 29, _ => exact (nl (nr (nl (nl (nr (nr (nr (nl h))))))))
  | 30, _ => exact (nr (nr (nr (nr (nl (nr (nr (nr (nl h)))))))))
  | 31, _ => exact (nr (nr (nr (nr (nl (nr (nr (nl (nr h)))))))))
  | 32, _ => exact (nl (nl (nr (nr (nr (nr (nl (nr h))))))))
  | 33, _ => exact (nr (nl (nl (nl (nl (nl (nr (nr h))))))))
  | 34, _ => exact (nl (nr (nr (nr (nl (nl (nl (nr (nr h)))))))))
  | 35, _ => exact (nr (nr (nr (nl (nr (nl (nl (nr (nr h)))))))))
  | 36, _ => exact (nl (nl (nl (nl (nr (nl (nr (nr h))))))))
  | i + 37, hi => exact absurd hi (by omega)
theorem en_od {args : Array Value} {s : State} (h : narrow_1.before args s = true) : ∀ i, i < 37 → (Cond.eq (.field (.static "NoonHat$Word" (wNm.getD i "") "LNoonHat$Word;") "java/lang/Enum" "ordinal" "I") (.int (Int32.ofNat i))).before args s = true := by
  intro i hi
  match i, hi with
  | 0, _ => exact (nr (nr (nl (nl (nl (nl (nl (nl h))))))))
  | 1, _ => exact (nl (nl (nr (nr (nl (nr (nl (nl h))))))))
  | 2, _ => exact (nr (nl (nl (nl (nr (nr (nl (nl h))))))))
  | 3, _ => exact (nl (nr (nr (nr (nl (nr (nr (nl (nl h)))))))))
  | 4, _ => exact (nr (nr (nr (nl (nr (nr (nr (nl (nl h)))))))))
  | 5, _ => exact (nl (nl (nl (nl (nl (nl (nr (nl h))))))))
  | 6, _ => exact (nl (nr (nr (nl (nl (nl (nr (nl h))))))))
  | 7, _ => exact (nl (nr (nr (nl (nr (nl (nl (nr (nl h)))))))))
  | 8, _ => exact (nr (nr (nr (nr (nr (nl (nl (nr (nl h)))))))))
  | 9, _ => exact (nr (nl (nr (nl (nr (nl (nr (nl h))))))))
  | 10, _ => exact (nl (nr (nl (nr (nr (nl (nr (nl h))))))))
  | 11, _ => exact (nl (nr (nr (nr (nr (nr (nl (nr (nl h)))))))))
  | 12, _ => exact (nl (nl (nr (nl (nl (nr (nr (nl h))))))))
  | 13, _ => exact (nr (nl (nl (nr (nl (nr (nr (nl h))))))))
  | 14, _ => exact (nl (nr (nr (nr (nl (nr (nr (nl h))))))))
  | 15, _ => exact (nr (nl (nr (nr (nr (nr (nr (nl h))))))))
  | 16, _ => exact (nr (nr (nr (nr (nl (nr (nl (nl (nr h)))))))))
  | 17, _ => exact (nl (nr (nr (nr (nl (nr (nl (nr (nr h)))))))))
  | 18, _ => exact (nr (nr (nr (nl (nr (nr (nl (nr (nr h)))))))))
  | 19, _ => exact (nl (nl (nl (nl (nl (nr (nr (nr h))))))))
  | 20, _ => exact (nl (nr (nr (nl (nl (nr (nr (nr h))))))))
  | 21, _ => exact (nl (nr (nr (nl (nr (nl (nr (nr (nr h)))))))))
  | 22, _ => exact (nr (nr (nr (nr (nr (nl (nr (nr (nr h)))))))))
  | 23, _ => exact (nr (nl (nr (nl (nr (nr (nr (nr h))))))))
  | 24, _ => exact (nl (nr (nl (nr (nr (nr (nr (nr h))))))))
  | 25, _ => exact (nl (nr (nl (nl (nr (nl (nl (nr h))))))))
  | 26, _ => exact (nr (nl (nr (nr (nl (nl (nl (nr h))))))))
  | 27, _ => exact (nl (nr (nl (nl (nl (nl (nl (nr h))))))))
  | 28, _ => exact (nr (nr (nr (nr (nl (nl (nl (nl (nr h)))))))))
  | 29, _ => exact (nr (nr (nl (nl (nr (nr (nr (nl h))))))))
  | 30, _ => exact (nl (nl (nl (nr (nr (nr (nr (nl h))))))))
  | 31, _ => exact (nl (nl (nl (nr (nr (nr (nl (nr h))))))))
  | 32, _ => exact (nr (nl (nr (nr (nr (nr (nl (nr h))))))))
  | 33, _ => exact (nl (nr (nl (nl (nl (nl (nr (nr h))))))))
  | 34, _ => exact (nr (nr (nr (nr (nl (nl (nl (nr (nr h)))))))))
  | 35, _ => exact (nl (nl (nr (nr (nl (nl (nr (nr h))))))))
  | 36, _ => exact (nr (nl (nl (nl (nr (nl (nr (nr h))))))))
  | i + 37, hi => exact absurd hi (by omega)
theorem en_f0 {args : Array Value} {s : State} (h : narrow_1.before args s = true) : ∀ i, i < 37 → (Cond.eq (.field (.static "NoonHat$Word" (wNm.getD i "") "LNoonHat$Word;") "NoonHat$Word" "code" "I") (.int (((wT 0).map Int32.ofInt).getD i 0))).before args s = true := by
  intro i hi
  match i, hi with
  | 0, _ => exact en_cast (by decide +kernel) (nl (nl (nr (nl (nl (nl (nl (nl h))))))))
  | 1, _ => exact en_cast (by decide +kernel) (nr (nl (nr (nr (nl (nr (nl (nl h))))))))
  | 2, _ => exact en_cast (by decide +kernel) (nl (nr (nl (nl (nr (nr (nl (nl h))))))))
  | 3, _ => exact en_cast (by decide +kernel) (nr (nr (nr (nr (nl (nr (nr (nl (nl h)))))))))
  | 4, _ => exact en_cast (by decide +kernel) (nl (nl (nr (nr (nr (nr (nl (nl h))))))))
  | 5, _ => exact en_cast (by decide +kernel) (nr (nl (nl (nl (nl (nl (nr (nl h))))))))
  | 6, _ => exact en_cast (by decide +kernel) (nl (nr (nr (nr (nl (nl (nl (nr (nl h)))))))))
  | 7, _ => exact en_cast (by decide +kernel) (nr (nr (nr (nl (nr (nl (nl (nr (nl h)))))))))
  | 8, _ => exact en_cast (by decide +kernel) (nl (nl (nl (nl (nr (nl (nr (nl h))))))))
  | 9, _ => exact en_cast (by decide +kernel) (nl (nr (nr (nl (nr (nl (nr (nl h))))))))
  | 10, _ => exact en_cast (by decide +kernel) (nl (nr (nr (nl (nr (nr (nl (nr (nl h)))))))))
  | 11, _ => exact en_cast (by decide +kernel) (nr (nr (nr (nr (nr (nr (nl (nr (nl h)))))))))
  | 12, _ => exact en_cast (by decide +kernel) (nr (nl (nr (nl (nl (nr (nr (nl h))))))))
  | 13, _ => exact en_cast (by decide +kernel) (nl (nr (nl (nr (nl (nr (nr (nl h))))))))
  | 14, _ => exact en_cast (by decide +kernel) (nl (nr (nr (nr (nr (nl (nr (nr (nl h)))))))))
  | 15, _ => exact en_cast (by decide +kernel) (nl (nr (nr (nr (nr (nr (nr (nl h))))))))
  | 16, _ => exact en_cast (by decide +kernel) (nl (nl (nl (nr (nr (nl (nl (nr h))))))))
  | 17, _ => exact en_cast (by decide +kernel) (nr (nr (nr (nr (nl (nr (nl (nr (nr h)))))))))
  | 18, _ => exact en_cast (by decide +kernel) (nl (nl (nr (nr (nr (nl (nr (nr h))))))))
  | 19, _ => exact en_cast (by decide +kernel) (nr (nl (nl (nl (nl (nr (nr (nr h))))))))
  | 20, _ => exact en_cast (by decide +kernel) (nl (nr (nr (nr (nl (nl (nr (nr (nr h)))))))))
  | 21, _ => exact en_cast (by decide +kernel) (nr (nr (nr (nl (nr (nl (nr (nr (nr h)))))))))
  | 22, _ => exact en_cast (by decide +kernel) (nl (nl (nl (nl (nr (nr (nr (nr h))))))))
  | 23, _ => exact en_cast (by decide +kernel) (nl (nr (nr (nl (nr (nr (nr (nr h))))))))
  | 24, _ => exact en_cast (by decide +kernel) (nl (nr (nr (nl (nr (nr (nr (nr (nr h)))))))))
  | 25, _ => exact en_cast (by decide +kernel) (nr (nr (nl (nl (nr (nl (nl (nr h))))))))
  | 26, _ => exact en_cast (by decide +kernel) (nl (nr (nr (nr (nl (nl (nl (nr h))))))))
  | 27, _ => exact en_cast (by decide +kernel) (nr (nr (nl (nl (nl (nl (nl (nr h))))))))
  | 28, _ => exact en_cast (by decide +kernel) (nl (nl (nl (nr (nl (nl (nl (nr h))))))))
  | 29, _ => exact en_cast (by decide +kernel) (nl (nl (nr (nl (nr (nr (nr (nl h))))))))
  | 30, _ => exact en_cast (by decide +kernel) (nr (nl (nl (nr (nr (nr (nr (nl h))))))))
  | 31, _ => exact en_cast (by decide +kernel) (nr (nl (nl (nr (nr (nr (nl (nr h))))))))
  | 32, _ => exact en_cast (by decide +kernel) (nl (nr (nr (nr (nr (nr (nl (nr h))))))))
  | 33, _ => exact en_cast (by decide +kernel) (nr (nr (nl (nl (nl (nl (nr (nr h))))))))
  | 34, _ => exact en_cast (by decide +kernel) (nl (nl (nl (nr (nl (nl (nr (nr h))))))))
  | 35, _ => exact en_cast (by decide +kernel) (nr (nl (nr (nr (nl (nl (nr (nr h))))))))
  | 36, _ => exact en_cast (by decide +kernel) (nl (nr (nl (nl (nr (nl (nr (nr h))))))))
  | i + 37, hi => exact absurd hi (by omega)
theorem en_f1 {args : Array Value} {s : State} (h : narrow_1.before args s = true) : ∀ i, i < 37 → (Cond.eq (.field (.static "NoonHat$Word" (wNm.getD i "") "LNoonHat$Word;") "NoonHat$Word" "own" "Z") (.int (((wT 1).map Int32.ofInt).getD i 0))).before args s = true := by
  intro i hi
  match i, hi with
  | 0, _ => exact en_cast (by decide +kernel) (nr (nl (nr (nl (nl (nl (nl (nl h))))))))
  | 1, _ => exact en_cast (by decide +kernel) (nl (nr (nr (nr (nl (nr (nl (nl h))))))))
  | 2, _ => exact en_cast (by decide +kernel) (nr (nr (nl (nl (nr (nr (nl (nl h))))))))
  | 3, _ => exact en_cast (by decide +kernel) (nl (nl (nl (nr (nr (nr (nl (nl h))))))))
  | 4, _ => exact en_cast (by decide +kernel) (nr (nl (nr (nr (nr (nr (nl (nl h))))))))
  | 5, _ => exact en_cast (by decide +kernel) (nl (nr (nl (nl (nl (nl (nr (nl h))))))))
  | 6, _ => exact en_cast (by decide +kernel) (nr (nr (nr (nr (nl (nl (nl (nr (nl h)))))))))
  | 7, _ => exact en_cast (by decide +kernel) (nl (nl (nr (nr (nl (nl (nr (nl h))))))))
  | 8, _ => exact en_cast (by decide +kernel) (nr (nl (nl (nl (nr (nl (nr (nl h))))))))
  | 9, _ => exact en_cast (by decide +kernel) (nl (nr (nr (nr (nl (nr (nl (nr (nl h)))))))))
  | 10, _ => exact en_cast (by decide +kernel) (nr (nr (nr (nl (nr (nr (nl (nr (nl h)))))))))
  | 11, _ => exact en_cast (by decide +kernel) (nl (nl (nl (nl (nl (nr (nr (nl h))))))))
  | 12, _ => exact en_cast (by decide +kernel) (nl (nr (nr (nl (nl (nr (nr (nl h))))))))
  | 13, _ => exact en_cast (by decide +kernel) (nl (nr (nr (nl (nr (nl (nr (nr (nl h)))))))))
  | 14, _ => exact en_cast (by decide +kernel) (nr (nr (nr (nr (nr (nl (nr (nr (nl h)))))))))
  | 15, _ => exact en_cast (by decide +kernel) (nl (nr (nr (nr (nr (nr (nr (nr (nl h)))))))))
  | 16, _ => exact en_cast (by decide +kernel) (nr (nl (nl (nr (nr (nl (nl (nr h))))))))
  | 17, _ => exact en_cast (by decide +kernel) (nl (nl (nl (nr (nr (nl (nr (nr h))))))))
  | 18, _ => exact en_cast (by decide +kernel) (nr (nl (nr (nr (nr (nl (nr (nr h))))))))
  | 19, _ => exact en_cast (by decide +kernel) (nl (nr (nl (nl (nl (nr (nr (nr h))))))))
  | 20, _ => exact en_cast (by decide +kernel) (nr (nr (nr (nr (nl (nl (nr (nr (nr h)))))))))
  | 21, _ => exact en_cast (by decide +kernel) (nl (nl (nr (nr (nl (nr (nr (nr h))))))))
  | 22, _ => exact en_cast (by decide +kernel) (nr (nl (nl (nl (nr (nr (nr (nr h))))))))
  | 23, _ => exact en_cast (by decide +kernel) (nl (nr (nr (nr (nl (nr (nr (nr (nr h)))))))))
  | 24, _ => exact en_cast (by decide +kernel) (nr (nr (nr (nl (nr (nr (nr (nr (nr h)))))))))
  | 25, _ => exact en_cast (by decide +kernel) (nl (nl (nr (nl (nr (nl (nl (nr h))))))))
  | 26, _ => exact en_cast (by decide +kernel) (nl (nr (nr (nr (nr (nl (nl (nl (nr h)))))))))
  | 27, _ => exact en_cast (by decide +kernel) (nl (nl (nr (nl (nl (nl (nl (nr h))))))))
  | 28, _ => exact en_cast (by decide +kernel) (nr (nl (nl (nr (nl (nl (nl (nr h))))))))
  | 29, _ => exact en_cast (by decide +kernel) (nr (nl (nr (nl (nr (nr (nr (nl h))))))))
  | 30, _ => exact en_cast (by decide +kernel) (nl (nr (nl (nr (nr (nr (nr (nl h))))))))
  | 31, _ => exact en_cast (by decide +kernel) (nl (nr (nl (nr (nr (nr (nl (nr h))))))))
  | 32, _ => exact en_cast (by decide +kernel) (nl (nr (nr (nr (nr (nr (nr (nl (nr h)))))))))
  | 33, _ => exact en_cast (by decide +kernel) (nl (nl (nr (nl (nl (nl (nr (nr h))))))))
  | 34, _ => exact en_cast (by decide +kernel) (nr (nl (nl (nr (nl (nl (nr (nr h))))))))
  | 35, _ => exact en_cast (by decide +kernel) (nl (nr (nr (nr (nl (nl (nr (nr h))))))))
  | 36, _ => exact en_cast (by decide +kernel) (nr (nr (nl (nl (nr (nl (nr (nr h))))))))
  | i + 37, hi => exact absurd hi (by omega)
theorem en_f2 {args : Array Value} {s : State} (h : narrow_1.before args s = true) : ∀ i, i < 37 → (Cond.eq (.field (.static "NoonHat$Word" (wNm.getD i "") "LNoonHat$Word;") "NoonHat$Word" "fact" "I") (.int (((wT 2).map Int32.ofInt).getD i 0))).before args s = true := by
  intro i hi
  match i, hi with
  | 0, _ => exact en_cast (by decide +kernel) (nl (nr (nr (nl (nl (nl (nl (nl h))))))))
  | 1, _ => exact en_cast (by decide +kernel) (nl (nr (nr (nr (nr (nl (nr (nl (nl h)))))))))
  | 2, _ => exact en_cast (by decide +kernel) (nl (nl (nr (nl (nr (nr (nl (nl h))))))))
  | 3, _ => exact en_cast (by decide +kernel) (nr (nl (nl (nr (nr (nr (nl (nl h))))))))
  | 4, _ => exact en_cast (by decide +kernel) (nl (nr (nr (nr (nr (nr (nl (nl h))))))))
  | 5, _ => exact en_cast (by decide +kernel) (nr (nr (nl (nl (nl (nl (nr (nl h))))))))
  | 6, _ => exact en_cast (by decide +kernel) (nl (nl (nl (nr (nl (nl (nr (nl h))))))))
  | 7, _ => exact en_cast (by decide +kernel) (nr (nl (nr (nr (nl (nl (nr (nl h))))))))
  | 8, _ => exact en_cast (by decide +kernel) (nl (nr (nl (nl (nr (nl (nr (nl h))))))))
  | 9, _ => exact en_cast (by decide +kernel) (nr (nr (nr (nr (nl (nr (nl (nr (nl h)))))))))
  | 10, _ => exact en_cast (by decide +kernel) (nl (nl (nr (nr (nr (nl (nr (nl h))))))))
  | 11, _ => exact en_cast (by decide +kernel) (nr (nl (nl (nl (nl (nr (nr (nl h))))))))
  | 12, _ => exact en_cast (by decide +kernel) (nl (nr (nr (nr (nl (nl (nr (nr (nl h)))))))))
  | 13, _ => exact en_cast (by decide +kernel) (nr (nr (nr (nl (nr (nl (nr (nr (nl h)))))))))
  | 14, _ => exact en_cast (by decide +kernel) (nl (nl (nl (nl (nr (nr (nr (nl h))))))))
  | 15, _ => exact en_cast (by decide +kernel) (nr (nr (nr (nr (nr (nr (nr (nr (nl h)))))))))
  | 16, _ => exact en_cast (by decide +kernel) (nl (nr (nl (nr (nr (nl (nl (nr h))))))))
  | 17, _ => exact en_cast (by decide +kernel) (nr (nl (nl (nr (nr (nl (nr (nr h))))))))
  | 18, _ => exact en_cast (by decide +kernel) (nl (nr (nr (nr (nr (nl (nr (nr h))))))))
  | 19, _ => exact en_cast (by decide +kernel) (nr (nr (nl (nl (nl (nr (nr (nr h))))))))
  | 20, _ => exact en_cast (by decide +kernel) (nl (nl (nl (nr (nl (nr (nr (nr h))))))))
  | 21, _ => exact en_cast (by decide +kernel) (nr (nl (nr (nr (nl (nr (nr (nr h))))))))
  | 22, _ => exact en_cast (by decide +kernel) (nl (nr (nl (nl (nr (nr (nr (nr h))))))))
  | 23, _ => exact en_cast (by decide +kernel) (nr (nr (nr (nr (nl (nr (nr (nr (nr h)))))))))
  | 24, _ => exact en_cast (by decide +kernel) (nl (nl (nr (nr (nr (nr (nr (nr h))))))))
  | 25, _ => exact en_cast (by decide +kernel) (nr (nl (nr (nl (nr (nl (nl (nr h))))))))
  | 26, _ => exact en_cast (by decide +kernel) (nr (nr (nr (nr (nr (nl (nl (nl (nr h)))))))))
  | 27, _ => exact en_cast (by decide +kernel) (nr (nl (nr (nl (nl (nl (nl (nr h))))))))
  | 28, _ => exact en_cast (by decide +kernel) (nl (nr (nl (nr (nl (nl (nl (nr h))))))))
  | 29, _ => exact en_cast (by decide +kernel) (nl (nr (nr (nl (nr (nr (nr (nl h))))))))
  | 30, _ => exact en_cast (by decide +kernel) (nl (nr (nr (nl (nr (nr (nr (nr (nl h)))))))))
  | 31, _ => exact en_cast (by decide +kernel) (nl (nr (nr (nl (nr (nr (nr (nl (nr h)))))))))
  | 32, _ => exact en_cast (by decide +kernel) (nr (nr (nr (nr (nr (nr (nr (nl (nr h)))))))))
  | 33, _ => exact en_cast (by decide +kernel) (nr (nl (nr (nl (nl (nl (nr (nr h))))))))
  | 34, _ => exact en_cast (by decide +kernel) (nl (nr (nl (nr (nl (nl (nr (nr h))))))))
  | 35, _ => exact en_cast (by decide +kernel) (nl (nr (nr (nr (nr (nl (nl (nr (nr h)))))))))
  | 36, _ => exact en_cast (by decide +kernel) (nl (nl (nr (nl (nr (nl (nr (nr h))))))))
  | i + 37, hi => exact absurd hi (by omega)
theorem en_f3 {args : Array Value} {s : State} (h : narrow_1.before args s = true) : ∀ i, i < 37 → (Cond.eq (.field (.static "NoonHat$Word" (wNm.getD i "") "LNoonHat$Word;") "NoonHat$Word" "where" "I") (.int (((wT 3).map Int32.ofInt).getD i 0))).before args s = true := by
  intro i hi
  match i, hi with
  | 0, _ => exact en_cast (by decide +kernel) (nl (nr (nr (nr (nl (nl (nl (nl (nl h)))))))))
  | 1, _ => exact en_cast (by decide +kernel) (nr (nr (nr (nr (nr (nl (nr (nl (nl h)))))))))
  | 2, _ => exact en_cast (by decide +kernel) (nr (nl (nr (nl (nr (nr (nl (nl h))))))))
  | 3, _ => exact en_cast (by decide +kernel) (nl (nr (nl (nr (nr (nr (nl (nl h))))))))
  | 4, _ => exact en_cast (by decide +kernel) (nl (nr (nr (nr (nr (nr (nr (nl (nl h)))))))))
  | 5, _ => exact en_cast (by decide +kernel) (nl (nl (nr (nl (nl (nl (nr (nl h))))))))
  | 6, _ => exact en_cast (by decide +kernel) (nr (nl (nl (nr (nl (nl (nr (nl h))))))))
  | 7, _ => exact en_cast (by decide +kernel) (nl (nr (nr (nr (nl (nl (nr (nl h))))))))
  | 8, _ => exact en_cast (by decide +kernel) (nr (nr (nl (nl (nr (nl (nr (nl h))))))))
  | 9, _ => exact en_cast (by decide +kernel) (nl (nl (nl (nr (nr (nl (nr (nl h))))))))
  | 10, _ => exact en_cast (by decide +kernel) (nr (nl (nr (nr (nr (nl (nr (nl h))))))))
  | 11, _ => exact en_cast (by decide +kernel) (nl (nr (nl (nl (nl (nr (nr (nl h))))))))
  | 12, _ => exact en_cast (by decide +kernel) (nr (nr (nr (nr (nl (nl (nr (nr (nl h)))))))))
  | 13, _ => exact en_cast (by decide +kernel) (nl (nl (nr (nr (nl (nr (nr (nl h))))))))
  | 14, _ => exact en_cast (by decide +kernel) (nr (nl (nl (nl (nr (nr (nr (nl h))))))))
  | 15, _ => exact en_cast (by decide +kernel) (nl (nl (nl (nl (nl (nl (nl (nr h))))))))
  | 16, _ => exact en_cast (by decide +kernel) (nl (nr (nr (nl (nr (nr (nl (nl (nr h)))))))))
  | 17, _ => exact en_cast (by decide +kernel) (nl (nr (nl (nr (nr (nl (nr (nr h))))))))
  | 18, _ => exact en_cast (by decide +kernel) (nl (nr (nr (nr (nr (nr (nl (nr (nr h)))))))))
  | 19, _ => exact en_cast (by decide +kernel) (nl (nl (nr (nl (nl (nr (nr (nr h))))))))
  | 20, _ => exact en_cast (by decide +kernel) (nr (nl (nl (nr (nl (nr (nr (nr h))))))))
  | 21, _ => exact en_cast (by decide +kernel) (nl (nr (nr (nr (nl (nr (nr (nr h))))))))
  | 22, _ => exact en_cast (by decide +kernel) (nr (nr (nl (nl (nr (nr (nr (nr h))))))))
  | 23, _ => exact en_cast (by decide +kernel) (nl (nl (nl (nr (nr (nr (nr (nr h))))))))
  | 24, _ => exact en_cast (by decide +kernel) (nr (nl (nr (nr (nr (nr (nr (nr h))))))))
  | 25, _ => exact en_cast (by decide +kernel) (nl (nr (nr (nl (nr (nl (nl (nr h))))))))
  | 26, _ => exact en_cast (by decide +kernel) (nl (nl (nl (nl (nr (nl (nl (nr h))))))))
  | 27, _ => exact en_cast (by decide +kernel) (nl (nr (nr (nl (nl (nl (nl (nr h))))))))
  | 28, _ => exact en_cast (by decide +kernel) (nr (nr (nl (nr (nl (nl (nl (nr h))))))))
  | 29, _ => exact en_cast (by decide +kernel) (nl (nr (nr (nr (nl (nr (nr (nr (nl h)))))))))
  | 30, _ => exact en_cast (by decide +kernel) (nr (nr (nr (nl (nr (nr (nr (nr (nl h)))))))))
  | 31, _ => exact en_cast (by decide +kernel) (nr (nr (nr (nl (nr (nr (nr (nl (nr h)))))))))
  | 32, _ => exact en_cast (by decide +kernel) (nl (nl (nl (nl (nl (nl (nr (nr h))))))))
  | 33, _ => exact en_cast (by decide +kernel) (nl (nr (nr (nl (nl (nl (nr (nr h))))))))
  | 34, _ => exact en_cast (by decide +kernel) (nl (nr (nr (nl (nr (nl (nl (nr (nr h)))))))))
  | 35, _ => exact en_cast (by decide +kernel) (nr (nr (nr (nr (nr (nl (nl (nr (nr h)))))))))
  | 36, _ => exact en_cast (by decide +kernel) (nr (nl (nr (nl (nr (nl (nr (nr h))))))))
  | i + 37, hi => exact absurd hi (by omega)
theorem neq_of {t u : Term} {args : Array Value} {s : State} {a b : Addr} (ht : t.eval args s none [] s = some (.ref a)) (hu : u.eval args s none [] s = some (.ref b)) (hab : a ≠ b) : (Cond.not (.eq t u)).before args s = true := by
  simp [Cond.before, Cond.holds, Cond.value, ht, hu, hab]
theorem en_of {args : Array Value} {s : State} (ht : ∀ w ∈ lw_tbl, w.before args s = true) (h : narrow_1.before args s = true) {A : Nat → Prop} (hA : ∀ a : Nat, a < s.heap.size → ¬ A a) : ∃ ad : Nat → Nat, va_En "NoonHat$Word" "LNoonHat$Word;" wNm wF ad A s s.heap ∧ ∀ i, i < wNm.length → (Term.static "NoonHat$Word" (wNm.getD i "") "LNoonHat$Word;").eval args s none [] s = some (.ref (ad i)) := by
  refine va_Enof2 (en_hl ht) (ht _ (lwp1 4 rfl)) (en_ex h) ?_ ?_ hA
  · intro q hq i hi
    rcases List.mem_cons.mp hq with rfl | hq
    · exact en_f0 h i hi
    rcases List.mem_cons.mp hq with rfl | hq
    · exact en_f1 h i hi
    rcases List.mem_cons.mp hq with rfl | hq
    · exact en_f2 h i hi
    rcases List.mem_cons.mp hq with rfl | hq
    · exact en_f3 h i hi
    · exact absurd hq List.not_mem_nil
  · intro i j hi hj hij
    obtain ⟨a, -, -, -, ha, -⟩ := Cond.exactly_spec (en_ex h i hi)
    obtain ⟨b, -, -, -, hb, -⟩ := Cond.exactly_spec (en_ex h j hj)
    have o1 := va_eqt (en_od h i hi)
    have o2 := va_eqt (en_od h j hj)
    rw [va_fe ha] at o1
    rw [va_fe hb] at o2
    have hi' : i < 37 := hi
    have hj' : j < 37 := hj
    have hab : a ≠ b := fun e => by
      rw [e, o2] at o1
      have e1 : Int32.ofNat j = Int32.ofNat i := Value.int.inj (Option.some.inj o1)
      have e2 := congrArg Int32.toNatClampNeg e1
      rw [Int32.toNatClampNeg_ofNat_of_lt (by omega), Int32.toNatClampNeg_ofNat_of_lt (by omega)] at e2
      exact hij e2.symm
    left
    exact neq_of ha hb hab
theorem tb_39 {args : Array Value} {s : State} (h : narrow_1.before args s = true) : ∀ i, i < 6 → (Term.elem (.static "NoonHat$Word" "POWERS" "[I") (.int (Int32.ofNat i))).eval args s none [] s = some (Value.int (Int32.ofInt ((sT 39).getD i 0))) := by
  intro i hi
  match i, hi with
  | 0, _ => exact (va_eqt (nl (nr (nl (nl (nr (nr (nl (nr h))))))))).trans (congrArg (fun v => some (Value.int v)) (by decide +kernel))
  | 1, _ => exact (va_eqt (nr (nr (nl (nl (nr (nr (nl (nr h))))))))).trans (congrArg (fun v => some (Value.int v)) (by decide +kernel))
  | 2, _ => exact (va_eqt (nl (nl (nr (nl (nr (nr (nl (nr h))))))))).trans (congrArg (fun v => some (Value.int v)) (by decide +kernel))
  | 3, _ => exact (va_eqt (nr (nl (nr (nl (nr (nr (nl (nr h))))))))).trans (congrArg (fun v => some (Value.int v)) (by decide +kernel))
  | 4, _ => exact (va_eqt (nl (nr (nr (nl (nr (nr (nl (nr h))))))))).trans (congrArg (fun v => some (Value.int v)) (by decide +kernel))
  | 5, _ => exact (va_eqt (nl (nr (nr (nr (nl (nr (nr (nl (nr h)))))))))).trans (congrArg (fun v => some (Value.int v)) (by decide +kernel))
  | i + 6, hi => exact absurd hi (by omega)
theorem tab_39 {args : Array Value} {s : State} (h : narrow_1.before args s = true) {A : Nat → Prop} (hA : ∀ a : Nat, a < s.heap.size → ¬ A a) : ∃ t : Nat, (Term.static "NoonHat$Word" "POWERS" "[I").eval args s none [] s = some (.ref t) ∧ va_T .int t 6 (fun j => .int (Int32.ofInt ((sT 39).getD j 0))) A s s.heap :=
  va_Tof (by decide) (nl (nl (nl (nl (nr (nr (nl (nr h)))))))) (va_eqt (nr (nl (nl (nl (nr (nr (nl (nr h))))))))) (tb_39 h) hA
theorem tb_40 {args : Array Value} {s : State} (h : narrow_1.before args s = true) : ∀ i, i < 9 → (Term.elem (.static "NoonHat" "COLUMN_STEPS" "[I") (.int (Int32.ofNat i))).eval args s none [] s = some (Value.int (Int32.ofInt ((sT 40).getD i 0))) := by
  intro i hi
  match i, hi with
  | 0, _ => exact (va_eqt (nl (nr (nr (nr (nr (nl (nl (nr h))))))))).trans (congrArg (fun v => some (Value.int v)) (by decide +kernel))
  | 1, _ => exact (va_eqt (nl (nr (nr (nr (nr (nr (nl (nl (nr h)))))))))).trans (congrArg (fun v => some (Value.int v)) (by decide +kernel))
  | 2, _ => exact (va_eqt (nr (nr (nr (nr (nr (nr (nl (nl (nr h)))))))))).trans (congrArg (fun v => some (Value.int v)) (by decide +kernel))
  | 3, _ => exact (va_eqt (nl (nl (nl (nl (nl (nr (nl (nr h))))))))).trans (congrArg (fun v => some (Value.int v)) (by decide +kernel))
  | 4, _ => exact (va_eqt (nr (nl (nl (nl (nl (nr (nl (nr h))))))))).trans (congrArg (fun v => some (Value.int v)) (by decide +kernel))
  | 5, _ => exact (va_eqt (nl (nr (nl (nl (nl (nr (nl (nr h))))))))).trans (congrArg (fun v => some (Value.int v)) (by decide +kernel))
  | 6, _ => exact (va_eqt (nr (nr (nl (nl (nl (nr (nl (nr h))))))))).trans (congrArg (fun v => some (Value.int v)) (by decide +kernel))
  | 7, _ => exact (va_eqt (nl (nl (nr (nl (nl (nr (nl (nr h))))))))).trans (congrArg (fun v => some (Value.int v)) (by decide +kernel))
  | 8, _ => exact (va_eqt (nr (nl (nr (nl (nl (nr (nl (nr h))))))))).trans (congrArg (fun v => some (Value.int v)) (by decide +kernel))
  | i + 9, hi => exact absurd hi (by omega)
theorem tab_40 {args : Array Value} {s : State} (h : narrow_1.before args s = true) {A : Nat → Prop} (hA : ∀ a : Nat, a < s.heap.size → ¬ A a) : ∃ t : Nat, (Term.static "NoonHat" "COLUMN_STEPS" "[I").eval args s none [] s = some (.ref t) ∧ va_T .int t 9 (fun j => .int (Int32.ofInt ((sT 40).getD j 0))) A s s.heap :=
  va_Tof (by decide) (nl (nl (nr (nr (nr (nl (nl (nr h)))))))) (va_eqt (nr (nl (nr (nr (nr (nl (nl (nr h))))))))) (tb_40 h) hA
theorem tb_41 {args : Array Value} {s : State} (h : narrow_1.before args s = true) : ∀ i, i < 9 → (Term.elem (.static "NoonHat" "ROW_STEPS" "[I") (.int (Int32.ofNat i))).eval args s none [] s = some (Value.int (Int32.ofInt ((sT 41).getD i 0))) := by
  intro i hi
  match i, hi with
  | 0, _ => exact (va_eqt (nl (nl (nl (nr (nl (nr (nl (nr h))))))))).trans (congrArg (fun v => some (Value.int v)) (by decide +kernel))
  | 1, _ => exact (va_eqt (nr (nl (nl (nr (nl (nr (nl (nr h))))))))).trans (congrArg (fun v => some (Value.int v)) (by decide +kernel))
  | 2, _ => exact (va_eqt (nl (nr (nl (nr (nl (nr (nl (nr h))))))))).trans (congrArg (fun v => some (Value.int v)) (by decide +kernel))
  | 3, _ => exact (va_eqt (nl (nr (nr (nl (nr (nl (nr (nl (nr h)))))))))).trans (congrArg (fun v => some (Value.int v)) (by decide +kernel))
  | 4, _ => exact (va_eqt (nr (nr (nr (nl (nr (nl (nr (nl (nr h)))))))))).trans (congrArg (fun v => some (Value.int v)) (by decide +kernel))
  | 5, _ => exact (va_eqt (nl (nl (nr (nr (nl (nr (nl (nr h))))))))).trans (congrArg (fun v => some (Value.int v)) (by decide +kernel))
  | 6, _ => exact (va_eqt (nr (nl (nr (nr (nl (nr (nl (nr h))))))))).trans (congrArg (fun v => some (Value.int v)) (by decide +kernel))
  | 7, _ => exact (va_eqt (nl (nr (nr (nr (nl (nr (nl (nr h))))))))).trans (congrArg (fun v => some (Value.int v)) (by decide +kernel))
  | 8, _ => exact (va_eqt (nl (nr (nr (nr (nr (nl (nr (nl (nr h)))))))))).trans (congrArg (fun v => some (Value.int v)) (by decide +kernel))
  | i + 9, hi => exact absurd hi (by omega)
theorem tab_41 {args : Array Value} {s : State} (h : narrow_1.before args s = true) {A : Nat → Prop} (hA : ∀ a : Nat, a < s.heap.size → ¬ A a) : ∃ t : Nat, (Term.static "NoonHat" "ROW_STEPS" "[I").eval args s none [] s = some (.ref t) ∧ va_T .int t 9 (fun j => .int (Int32.ofInt ((sT 41).getD j 0))) A s s.heap :=
  va_Tof (by decide) (nl (nr (nr (nr (nl (nl (nr (nl (nr h))))))))) (va_eqt (nr (nr (nr (nr (nl (nl (nr (nl (nr h)))))))))) (tb_41 h) hA
theorem tb_38 {args : Array Value} {s : State} (h : narrow_1.before args s = true) {ad : Nat → Nat} (e : ∀ i, i < 37 → (Term.static "NoonHat$Word" (wNm.getD i "") "LNoonHat$Word;").eval args s none [] s = some (.ref (ad i))) : ∀ i, i < 37 → (Term.elem (.static "NoonHat$Word" "WORDS" "[LNoonHat$Word;") (.int (Int32.ofNat i))).eval args s none [] s = (Term.static "NoonHat$Word" (wNm.getD i "") "LNoonHat$Word;").eval args s none [] s := by
  intro i hi
  match i, hi with
  | 0, _ => exact (va_eqv (nl (nl (nr (nr (nl (nl (nl (nl h)))))))) (e 0 (by decide))).trans (e 0 (by decide)).symm
  | 1, _ => exact (va_eqv (nr (nl (nr (nr (nl (nl (nl (nl h)))))))) (e 1 (by decide))).trans (e 1 (by decide)).symm
  | 2, _ => exact (va_eqv (nl (nr (nr (nr (nl (nl (nl (nl h)))))))) (e 2 (by decide))).trans (e 2 (by decide)).symm
  | 3, _ => exact (va_eqv (nl (nr (nr (nr (nr (nl (nl (nl (nl h))))))))) (e 3 (by decide))).trans (e 3 (by decide)).symm
  | 4, _ => exact (va_eqv (nr (nr (nr (nr (nr (nl (nl (nl (nl h))))))))) (e 4 (by decide))).trans (e 4 (by decide)).symm
  | 5, _ => exact (va_eqv (nl (nl (nl (nl (nr (nl (nl (nl h)))))))) (e 5 (by decide))).trans (e 5 (by decide)).symm
  | 6, _ => exact (va_eqv (nr (nl (nl (nl (nr (nl (nl (nl h)))))))) (e 6 (by decide))).trans (e 6 (by decide)).symm
  | 7, _ => exact (va_eqv (nl (nr (nl (nl (nr (nl (nl (nl h)))))))) (e 7 (by decide))).trans (e 7 (by decide)).symm
  | 8, _ => exact (va_eqv (nr (nr (nl (nl (nr (nl (nl (nl h)))))))) (e 8 (by decide))).trans (e 8 (by decide)).symm
  | 9, _ => exact (va_eqv (nl (nl (nr (nl (nr (nl (nl (nl h)))))))) (e 9 (by decide))).trans (e 9 (by decide)).symm
  | 10, _ => exact (va_eqv (nr (nl (nr (nl (nr (nl (nl (nl h)))))))) (e 10 (by decide))).trans (e 10 (by decide)).symm
  | 11, _ => exact (va_eqv (nl (nr (nr (nl (nr (nl (nl (nl h)))))))) (e 11 (by decide))).trans (e 11 (by decide)).symm
  | 12, _ => exact (va_eqv (nl (nr (nr (nr (nl (nr (nl (nl (nl h))))))))) (e 12 (by decide))).trans (e 12 (by decide)).symm
  | 13, _ => exact (va_eqv (nr (nr (nr (nr (nl (nr (nl (nl (nl h))))))))) (e 13 (by decide))).trans (e 13 (by decide)).symm
  | 14, _ => exact (va_eqv (nl (nl (nl (nr (nr (nl (nl (nl h)))))))) (e 14 (by decide))).trans (e 14 (by decide)).symm
  | 15, _ => exact (va_eqv (nr (nl (nl (nr (nr (nl (nl (nl h)))))))) (e 15 (by decide))).trans (e 15 (by decide)).symm
  | 16, _ => exact (va_eqv (nl (nr (nl (nr (nr (nl (nl (nl h)))))))) (e 16 (by decide))).trans (e 16 (by decide)).symm
  | 17, _ => exact (va_eqv (nl (nr (nr (nl (nr (nr (nl (nl (nl h))))))))) (e 17 (by decide))).trans (e 17 (by decide)).symm
  | 18, _ => exact (va_eqv (nr (nr (nr (nl (nr (nr (nl (nl (nl h))))))))) (e 18 (by decide))).trans (e 18 (by decide)).symm
  | 19, _ => exact (va_eqv (nl (nl (nr (nr (nr (nl (nl (nl h)))))))) (e 19 (by decide))).trans (e 19 (by decide)).symm
  | 20, _ => exact (va_eqv (nr (nl (nr (nr (nr (nl (nl (nl h)))))))) (e 20 (by decide))).trans (e 20 (by decide)).symm
  | 21, _ => exact (va_eqv (nl (nr (nr (nr (nr (nl (nl (nl h)))))))) (e 21 (by decide))).trans (e 21 (by decide)).symm
  | 22, _ => exact (va_eqv (nl (nr (nr (nr (nr (nr (nl (nl (nl h))))))))) (e 22 (by decide))).trans (e 22 (by decide)).symm
  | 23, _ => exact (va_eqv (nr (nr (nr (nr (nr (nr (nl (nl (nl h))))))))) (e 23 (by decide))).trans (e 23 (by decide)).symm
  | 24, _ => exact (va_eqv (nl (nl (nl (nl (nl (nr (nl (nl h)))))))) (e 24 (by decide))).trans (e 24 (by decide)).symm
  | 25, _ => exact (va_eqv (nr (nl (nl (nl (nl (nr (nl (nl h)))))))) (e 25 (by decide))).trans (e 25 (by decide)).symm
  | 26, _ => exact (va_eqv (nl (nr (nl (nl (nl (nr (nl (nl h)))))))) (e 26 (by decide))).trans (e 26 (by decide)).symm
  | 27, _ => exact (va_eqv (nr (nr (nl (nl (nl (nr (nl (nl h)))))))) (e 27 (by decide))).trans (e 27 (by decide)).symm
  | 28, _ => exact (va_eqv (nl (nl (nr (nl (nl (nr (nl (nl h)))))))) (e 28 (by decide))).trans (e 28 (by decide)).symm
  | 29, _ => exact (va_eqv (nr (nl (nr (nl (nl (nr (nl (nl h)))))))) (e 29 (by decide))).trans (e 29 (by decide)).symm
  | 30, _ => exact (va_eqv (nl (nr (nr (nl (nl (nr (nl (nl h)))))))) (e 30 (by decide))).trans (e 30 (by decide)).symm
  | 31, _ => exact (va_eqv (nl (nr (nr (nr (nl (nl (nr (nl (nl h))))))))) (e 31 (by decide))).trans (e 31 (by decide)).symm
  | 32, _ => exact (va_eqv (nr (nr (nr (nr (nl (nl (nr (nl (nl h))))))))) (e 32 (by decide))).trans (e 32 (by decide)).symm
  | 33, _ => exact (va_eqv (nl (nl (nl (nr (nl (nr (nl (nl h)))))))) (e 33 (by decide))).trans (e 33 (by decide)).symm
  | 34, _ => exact (va_eqv (nr (nl (nl (nr (nl (nr (nl (nl h)))))))) (e 34 (by decide))).trans (e 34 (by decide)).symm
  | 35, _ => exact (va_eqv (nl (nr (nl (nr (nl (nr (nl (nl h)))))))) (e 35 (by decide))).trans (e 35 (by decide)).symm
  | 36, _ => exact (va_eqv (nl (nr (nr (nl (nr (nl (nr (nl (nl h))))))))) (e 36 (by decide))).trans (e 36 (by decide)).symm
  | i + 37, hi => exact absurd hi (by omega)
theorem tab_38 {args : Array Value} {s : State} (h : narrow_1.before args s = true) {A : Nat → Prop} (hA : ∀ a : Nat, a < s.heap.size → ¬ A a) {ad : Nat → Nat} (e : ∀ i, i < 37 → (Term.static "NoonHat$Word" (wNm.getD i "") "LNoonHat$Word;").eval args s none [] s = some (.ref (ad i))) : ∃ t : Nat, (Term.static "NoonHat$Word" "WORDS" "[LNoonHat$Word;").eval args s none [] s = some (.ref t) ∧ va_T (.object "NoonHat$Word") t 37 (fun j => .ref (ad j)) A s s.heap :=
  va_Tof (by decide) (nr (nl (nl (nr (nl (nl (nl (nl h)))))))) (va_eqt (nl (nr (nl (nr (nl (nl (nl (nl h))))))))) (fun j hj => (tb_38 h e j hj).trans (e j hj)) hA
theorem cls_of {args : Array Value} {s : State} (ht : ∀ w ∈ lw_tbl, w.before args s = true) : ∃ f : Nat → ClassId × (Nat → Nat), ∀ (k : Nat) (q : vw_C), vwCl[k]? = some q → u_Kn s q.1 q.2.1 q.2.2 (f k).1 (f k).2 := by
  have hk : ∀ k : Nat, ∃ z : ClassId × (Nat → Nat), ∀ q : vw_C, vwCl[k]? = some q → u_Kn s q.1 q.2.1 q.2.2 z.1 z.2 := by
    intro k
    by_cases hk : k < 11
    · match k, hk with
      | 0, _ =>
        obtain ⟨c, i, h⟩ := u_known (C := RX0) (T := TX0) (N := 2) (n := 2) (fun w hw => ht w (tG_in w hw)) cOK0.2.2.1 (ht _ (lwp2 92 rfl))
        exact ⟨(c, i), fun q hq => by cases hq; exact h⟩
      | 1, _ =>
        obtain ⟨c, i, h⟩ := u_known (C := RX1) (T := TX1) (N := 16) (n := 16) (fun w hw => ht w (tG_in w hw)) cOK1.2.2.1 (ht _ (lwp2 3 rfl))
        exact ⟨(c, i), fun q hq => by cases hq; exact h⟩
      | 2, _ =>
        obtain ⟨c, i, h⟩ := u_known (C := RX2) (T := TX2) (N := 3) (n := 3) (fun w hw => ht w (tG_in w hw)) cOK2.2.2.1 (ht _ (lwp1 73 rfl))
        exact ⟨(c, i), fun q hq => by cases hq; exact h⟩
      | 3, _ =>
        obtain ⟨c, i, h⟩ := u_known (C := RX3) (T := TX3) (N := 4) (n := 4) (fun w hw => ht w (tG_in w hw)) cOK3.2.2.1 (ht _ (lwp1 89 rfl))
        exact ⟨(c, i), fun q hq => by cases hq; exact h⟩
      | 4, _ =>
        obtain ⟨c, i, h⟩ := u_known (C := RX4) (T := TX4) (N := 6) (n := 6) (fun w hw => ht w (tG_in w hw)) cOK4.2.2.1 (ht _ (lwp2 62 rfl))
        exact ⟨(c, i), fun q hq => by cases hq; exact h⟩
      | 5, _ =>
        obtain ⟨c, i, h⟩ := u_known (C := RX5) (T := TX5) (N := 10) (n := 10) (fun w hw => ht w (tG_in w hw)) cOK5.2.2.1 (ht _ (lwp1 27 rfl))
        exact ⟨(c, i), fun q hq => by cases hq; exact h⟩
      | 6, _ =>
        obtain ⟨c, i, h⟩ := u_known (C := RX6) (T := TX6) (N := 15) (n := 15) (fun w hw => ht w (tG_in w hw)) cOK6.2.2.1 (ht _ (lwp1 108 rfl))
        exact ⟨(c, i), fun q hq => by cases hq; exact h⟩
      | 7, _ =>
        obtain ⟨c, i, h⟩ := u_known (C := RX7) (T := TX7) (N := 3) (n := 3) (fun w hw => ht w (tG_in w hw)) cOK7.2.2.1 (ht _ (lwp1 225 rfl))
        exact ⟨(c, i), fun q hq => by cases hq; exact h⟩
      | 8, _ =>
        obtain ⟨c, i, h⟩ := u_known (C := RX8) (T := TX8) (N := 5) (n := 5) (fun w hw => ht w (tG_in w hw)) cOK8.2.2.1 (ht _ (lwp1 116 rfl))
        exact ⟨(c, i), fun q hq => by cases hq; exact h⟩
      | 9, _ =>
        obtain ⟨c, i, h⟩ := u_known (C := RX10) (T := TX10) (N := 20) (n := 20) (fun w hw => ht w (tG_in w hw)) cOK9.2.2.1 (ht _ (lwp1 19 rfl))
        exact ⟨(c, i), fun q hq => by cases hq; exact h⟩
      | 10, _ =>
        obtain ⟨c, i, h⟩ := u_known (C := RX11) (T := TX11) (N := 115) (n := 115) (fun w hw => ht w (tG_in w hw)) cOK10.2.2.1 (ht _ (lwp5 173 rfl))
        exact ⟨(c, i), fun q hq => by cases hq; exact h⟩
      | k + 11, h => exact absurd h (by omega)
    · exact ⟨(0, fun _ => 0), fun q hq => absurd (List.getElem?_eq_some_iff.mp hq).1 hk⟩
  obtain ⟨f, hf⟩ := Classical.axiomOfChoice hk
  exact ⟨f, hf⟩
theorem arp {args : Array Value} {s : State} {ty : FieldType} (h : (Cond.arrayClass ty).before args s = true) : ∃ c : ClassId, ArrOfT s c ty ∧ s.vm.findClass ("[" ++ ty.toString) = some c := by
  obtain ⟨c, k, comp, h1, h2, h3⟩ := Cond.arrayClass_spec h
  exact ⟨c, fun n z => ⟨fun j h => (by cases h), k, h2, comp, h3⟩, h1⟩
theorem ary {args : Array Value} {s : State} (ht : ∀ w ∈ lw_tbl, w.before args s = true) : ∃ f : Nat → ClassId, ∀ (k : Nat) (q : ClassId × FieldType), ([(f 0, .int), (f 1, .long), (f 2, .char), (f 3, .array .int), (f 4, .object "NoonHat$State")] : List (ClassId × FieldType))[k]? = some q → ArrOfT s q.1 q.2 ∧ va_RA s q.1 q.2 := by
  obtain ⟨c0, a0, b0⟩ := arp (ht (.arrayClass .int) (lwp1 71 rfl))
  obtain ⟨c1, a1, b1⟩ := arp (ht (.arrayClass .long) (lwp7 229 rfl))
  obtain ⟨c2, a2, b2⟩ := arp (ht (.arrayClass .char) (lwp7 228 rfl))
  obtain ⟨p3, c3, k3, d3, e3, f3, g3⟩ := Cond.arrayOver_specA (ht (.arrayOver (.array .int)) (lwp1 122 rfl))
  obtain ⟨p4, c4, k4, d4, i4, e4, f4, g4⟩ := Cond.arrayOver_spec (ht (.arrayOver (.object "NoonHat$State")) (lwp2 69 rfl))
  refine ⟨fun k => match k with | 0 => c0 | 1 => c1 | 2 => c2 | 3 => c3 | _ => c4, fun k q hq => ?_⟩
  match k, hq with
  | 0, hq => cases hq; exact ⟨a0, b0⟩
  | 1, hq => cases hq; exact ⟨a1, b1⟩
  | 2, hq => cases hq; exact ⟨a2, b2⟩
  | 3, hq => cases hq; exact ⟨fun n z => ⟨fun j h => (by cases h), k3, e3, p3, f3⟩, g3⟩
  | 4, hq => cases hq; exact ⟨fun n z => ⟨fun j h => (by cases h), k4, e4, p4, f4⟩, k4, p4, e4, f4, d4, g4⟩
  | k + 5, hq => exact absurd (List.getElem?_eq_some_iff.mp hq).1 (by simp)
theorem En_congr {E d : String} {nm : List String} {F : List (String × String × String × List Int32)} {a b : Nat → Nat} {A : Nat → Prop} {U : State} {H : Heap} (h : va_En E d nm F a A U H) (e : ∀ i, i < nm.length → b i = a i) : va_En E d nm F b A U H :=
  ⟨fun i hi => by rw [e i hi]; exact h.1 i hi, fun i j hi hj q => h.2 i j hi hj (by rw [← e i hi, ← e j hj]; exact q)⟩
theorem va_T_congr {ty : FieldType} {t N : Nat} {f g : Nat → Value} {A : Nat → Prop} {U : State} {H : Heap} (h : va_T ty t N f A U H) (e : ∀ i, i < N → g i = f i) : va_T ty t N g A U H := by
  obtain ⟨c, h1, h2, h3, h4, h5, h6, h7⟩ := h
  exact ⟨c, h1, h2, h3, h4, h5, fun j hj => by rw [e j hj]; exact h6 j hj, h7⟩
theorem start_X {s : State} {args : Array Value} (l : Launch) {b L : Nat} {xs : Nat → Int32} (hb0 : ∀ w ∈ lw_tbl, w.before args s = true) (h : narrow_1.before args s = true) (hX : va_X b L xs s s.heap) (hbl : b < s.heap.size) : ∃ X : CX, xL X = l ∧ xN X = L ∧ xB X = s.heap.size ∧ ad X 42 = b ∧ Stt X s s.heap := by
  have ht : ∀ w ∈ lw_tbl, w.before args s = true := hb0
  have hA : ∀ a : Nat, a < s.heap.size → ¬ s.heap.size ≤ a := fun a h => Nat.not_le.mpr h
  obtain ⟨ad0, hE, hev⟩ := en_of (A := fun q => s.heap.size ≤ q) ht h hA
  have hev' : ∀ i, i < 37 → (Term.static "NoonHat$Word" (wNm.getD i "") "LNoonHat$Word;").eval args s none [] s = some (.ref (ad0 i)) := hev
  obtain ⟨t38, v38, T38⟩ := tab_38 (A := fun q => s.heap.size ≤ q) h hA hev'
  obtain ⟨t39, v39, T39⟩ := tab_39 (A := fun q => s.heap.size ≤ q) h hA
  obtain ⟨t40, v40, T40⟩ := tab_40 (A := fun q => s.heap.size ≤ q) h hA
  obtain ⟨t41, v41, T41⟩ := tab_41 (A := fun q => s.heap.size ≤ q) h hA
  obtain ⟨fC, hC⟩ := cls_of ht
  obtain ⟨fA, hAr⟩ := ary ht
  have S0 : ∀ i, i < 37 → (if i + 1 = 38 then t38 else if i + 1 = 39 then t39 else if i + 1 = 40 then t40 else if i + 1 = 41 then t41 else if i + 1 = 42 then b else ad0 (i + 1 - 1)) = ad0 i := fun i hi => by
    rw [if_neg (by omega), if_neg (by omega), if_neg (by omega), if_neg (by omega), if_neg (by omega), Nat.add_sub_cancel]
  refine ⟨(l, (fun k => (fC k).1, fun k => (fC k).2), fA, s.heap.size, fun k => if k = 38 then t38 else if k = 39 then t39 else if k = 40 then t40 else if k = 41 then t41 else if k = 42 then b else ad0 (k - 1), L, xs), rfl, rfl, rfl, rfl, ⟨hC, hAr⟩, fun w hw => va_Nw.of (isN_tabs (tN_is hw)) (hb0 w (List.mem_filter.mp hw).1), ht (.arrayOver (.array .int)) (lwp1 122 rfl), va_AO.of (ht (.arrayOver (.object "NoonHat$State")) (lwp2 69 rfl)), ?_⟩
  refine ⟨En_congr hE S0, va_Zref (ht _ (lwp2 219 rfl)) (ht _ (lwp1 4 rfl)) v38 hA, va_Zref (ht _ (lwp4 44 rfl)) (ht _ (lwp1 4 rfl)) v39 hA, va_Zref (ht _ (lwp3 228 rfl)) (ht _ (lwp1 1 rfl)) v40 hA, va_Zref (ht _ (lwp3 234 rfl)) (ht _ (lwp1 1 rfl)) v41 hA, va_T_congr T38 (fun i hi => congrArg Value.ref (S0 i hi)), fun o o1 o2 => ?_, ?_⟩
  · have : o = 39 ∨ o = 40 ∨ o = 41 := by omega
    rcases this with rfl | rfl | rfl
    · exact T39
    · exact T40
    · exact T41
  · obtain ⟨scr, q1, q2, q3, q4, q5⟩ := hX
    exact ⟨scr, q1, q2, q3, by rw [q4]; exact Nat.le_refl _, by rw [q4]; rfl, q5, Nat.not_le.mpr hbl⟩
