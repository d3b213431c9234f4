/-! ===== the model made ===== -/
theorem wX11_11 : FW RX11 11 10 0 (.array .int) true := ⟨_, _, _, cOK10, by decide, rfl, rfl, Or.inl ⟨tGp6 122 rfl rfl, fun _ => rfl⟩⟩
theorem wX11_7 : FW RX11 7 10 9 (.array .int) true := ⟨_, _, _, cOK10, by decide, rfl, rfl, Or.inl ⟨tGp6 131 rfl rfl, fun _ => rfl⟩⟩
theorem wX11_61 : FW RX11 61 10 11 (.array .char) true := ⟨_, _, _, cOK10, by decide, rfl, rfl, Or.inl ⟨tGp6 133 rfl rfl, fun _ => rfl⟩⟩
theorem wX11_65 : FW RX11 65 10 12 (.array .char) true := ⟨_, _, _, cOK10, by decide, rfl, rfl, Or.inl ⟨tGp6 134 rfl rfl, fun _ => rfl⟩⟩
theorem wX11_68 : FW RX11 68 10 13 (.array .char) true := ⟨_, _, _, cOK10, by decide, rfl, rfl, Or.inl ⟨tGp6 135 rfl rfl, fun _ => rfl⟩⟩
theorem wX11_71 : FW RX11 71 10 14 (.array .char) true := ⟨_, _, _, cOK10, by decide, rfl, rfl, Or.inl ⟨tGp6 136 rfl rfl, fun _ => rfl⟩⟩
theorem wX11_74 : FW RX11 74 10 15 (.array .char) true := ⟨_, _, _, cOK10, by decide, rfl, rfl, Or.inl ⟨tGp6 137 rfl rfl, fun _ => rfl⟩⟩
theorem wX11_77 : FW RX11 77 10 16 (.array .char) true := ⟨_, _, _, cOK10, by decide, rfl, rfl, Or.inl ⟨tGp6 138 rfl rfl, fun _ => rfl⟩⟩
theorem wX11_80 : FW RX11 80 10 17 (.array .char) true := ⟨_, _, _, cOK10, by decide, rfl, rfl, Or.inl ⟨tGp6 139 rfl rfl, fun _ => rfl⟩⟩
theorem wX11_83 : FW RX11 83 10 18 (.array .char) true := ⟨_, _, _, cOK10, by decide, rfl, rfl, Or.inl ⟨tGp6 140 rfl rfl, fun _ => rfl⟩⟩
theorem wX11_86 : FW RX11 86 10 19 (.array .char) true := ⟨_, _, _, cOK10, by decide, rfl, rfl, Or.inl ⟨tGp6 141 rfl rfl, fun _ => rfl⟩⟩
theorem wX11_89 : FW RX11 89 10 20 (.array .char) true := ⟨_, _, _, cOK10, by decide, rfl, rfl, Or.inl ⟨tGp6 142 rfl rfl, fun _ => rfl⟩⟩
theorem wX11_92 : FW RX11 92 10 21 (.array .char) true := ⟨_, _, _, cOK10, by decide, rfl, rfl, Or.inl ⟨tGp6 143 rfl rfl, fun _ => rfl⟩⟩
theorem wX11_95 : FW RX11 95 10 22 (.array .char) true := ⟨_, _, _, cOK10, by decide, rfl, rfl, Or.inl ⟨tGp6 144 rfl rfl, fun _ => rfl⟩⟩
theorem wX11_98 : FW RX11 98 10 23 (.array .char) true := ⟨_, _, _, cOK10, by decide, rfl, rfl, Or.inl ⟨tGp6 145 rfl rfl, fun _ => rfl⟩⟩
theorem wX11_101 : FW RX11 101 10 24 (.array .char) true := ⟨_, _, _, cOK10, by decide, rfl, rfl, Or.inl ⟨tGp6 146 rfl rfl, fun _ => rfl⟩⟩
theorem wX11_104 : FW RX11 104 10 25 (.array .char) true := ⟨_, _, _, cOK10, by decide, rfl, rfl, Or.inl ⟨tGp6 147 rfl rfl, fun _ => rfl⟩⟩
theorem wX11_107 : FW RX11 107 10 26 (.array .char) true := ⟨_, _, _, cOK10, by decide, rfl, rfl, Or.inl ⟨tGp6 148 rfl rfl, fun _ => rfl⟩⟩
theorem wX11_110 : FW RX11 110 10 27 (.array .char) true := ⟨_, _, _, cOK10, by decide, rfl, rfl, Or.inl ⟨tGp6 149 rfl rfl, fun _ => rfl⟩⟩
theorem wX11_113 : FW RX11 113 10 28 (.array .char) true := ⟨_, _, _, cOK10, by decide, rfl, rfl, Or.inl ⟨tGp6 150 rfl rfl, fun _ => rfl⟩⟩
theorem wX11_116 : FW RX11 116 10 29 (.array .char) true := ⟨_, _, _, cOK10, by decide, rfl, rfl, Or.inl ⟨tGp6 151 rfl rfl, fun _ => rfl⟩⟩
theorem wX11_119 : FW RX11 119 10 30 (.array .char) true := ⟨_, _, _, cOK10, by decide, rfl, rfl, Or.inl ⟨tGp6 152 rfl rfl, fun _ => rfl⟩⟩
theorem wX11_122 : FW RX11 122 10 31 (.array .char) true := ⟨_, _, _, cOK10, by decide, rfl, rfl, Or.inl ⟨tGp6 153 rfl rfl, fun _ => rfl⟩⟩
theorem wX11_125 : FW RX11 125 10 32 (.array .char) true := ⟨_, _, _, cOK10, by decide, rfl, rfl, Or.inl ⟨tGp6 154 rfl rfl, fun _ => rfl⟩⟩
theorem wX11_128 : FW RX11 128 10 33 (.array .char) true := ⟨_, _, _, cOK10, by decide, rfl, rfl, Or.inl ⟨tGp6 155 rfl rfl, fun _ => rfl⟩⟩
theorem wX11_131 : FW RX11 131 10 34 (.array .char) true := ⟨_, _, _, cOK10, by decide, rfl, rfl, Or.inl ⟨tGp6 156 rfl rfl, fun _ => rfl⟩⟩
theorem wX11_134 : FW RX11 134 10 35 (.array .char) true := ⟨_, _, _, cOK10, by decide, rfl, rfl, Or.inl ⟨tGp6 157 rfl rfl, fun _ => rfl⟩⟩
theorem wX11_137 : FW RX11 137 10 36 (.array .char) true := ⟨_, _, _, cOK10, by decide, rfl, rfl, Or.inl ⟨tGp6 158 rfl rfl, fun _ => rfl⟩⟩
theorem wX11_140 : FW RX11 140 10 37 (.array .char) true := ⟨_, _, _, cOK10, by decide, rfl, rfl, Or.inl ⟨tGp6 159 rfl rfl, fun _ => rfl⟩⟩
theorem wX11_143 : FW RX11 143 10 38 (.array .char) true := ⟨_, _, _, cOK10, by decide, rfl, rfl, Or.inl ⟨tGp6 160 rfl rfl, fun _ => rfl⟩⟩
theorem wX11_146 : FW RX11 146 10 39 (.array .char) true := ⟨_, _, _, cOK10, by decide, rfl, rfl, Or.inl ⟨tGp6 161 rfl rfl, fun _ => rfl⟩⟩
theorem wX11_149 : FW RX11 149 10 40 (.array .char) true := ⟨_, _, _, cOK10, by decide, rfl, rfl, Or.inl ⟨tGp6 162 rfl rfl, fun _ => rfl⟩⟩
theorem wX11_166 : FW RX11 166 10 42 (.array .int) true := ⟨_, _, _, cOK10, by decide, rfl, rfl, Or.inl ⟨tGp6 164 rfl rfl, fun _ => rfl⟩⟩
theorem wX11_169 : FW RX11 169 10 43 (.array .long) true := ⟨_, _, _, cOK10, by decide, rfl, rfl, Or.inl ⟨tGp6 165 rfl rfl, fun _ => rfl⟩⟩
theorem wX11_185 : FW RX11 185 10 44 (.array .int) true := ⟨_, _, _, cOK10, by decide, rfl, rfl, Or.inl ⟨tGp6 166 rfl rfl, fun _ => rfl⟩⟩
theorem wX11_226 : FW RX11 226 10 45 (.array .int) true := ⟨_, _, _, cOK10, by decide, rfl, rfl, Or.inl ⟨tGp6 167 rfl rfl, fun _ => rfl⟩⟩
theorem wX11_199 : FW RX11 199 10 46 (.array .int) true := ⟨_, _, _, cOK10, by decide, rfl, rfl, Or.inl ⟨tGp6 168 rfl rfl, fun _ => rfl⟩⟩
theorem wX11_196 : FW RX11 196 10 47 (.array .int) true := ⟨_, _, _, cOK10, by decide, rfl, rfl, Or.inl ⟨tGp6 169 rfl rfl, fun _ => rfl⟩⟩
theorem wX11_229 : FW RX11 229 10 50 (.array .int) true := ⟨_, _, _, cOK10, by decide, rfl, rfl, Or.inl ⟨tGp6 172 rfl rfl, fun _ => rfl⟩⟩
theorem wX11_260 : FW RX11 260 10 51 (.array .int) true := ⟨_, _, _, cOK10, by decide, rfl, rfl, Or.inl ⟨tGp6 173 rfl rfl, fun _ => rfl⟩⟩
theorem wX11_254 : FW RX11 254 10 52 (.array .int) true := ⟨_, _, _, cOK10, by decide, rfl, rfl, Or.inl ⟨tGp6 174 rfl rfl, fun _ => rfl⟩⟩
theorem wX11_303 : FW RX11 303 10 59 (.array .int) true := ⟨_, _, _, cOK10, by decide, rfl, rfl, Or.inl ⟨tGp6 181 rfl rfl, fun _ => rfl⟩⟩
theorem wX11_317 : FW RX11 317 10 60 (.array .int) true := ⟨_, _, _, cOK10, by decide, rfl, rfl, Or.inl ⟨tGp6 182 rfl rfl, fun _ => rfl⟩⟩
theorem wX11_320 : FW RX11 320 10 63 (.array .int) true := ⟨_, _, _, cOK10, by decide, rfl, rfl, Or.inl ⟨tGp6 185 rfl rfl, fun _ => rfl⟩⟩
theorem wX11_323 : FW RX11 323 10 67 (.array .int) true := ⟨_, _, _, cOK10, by decide, rfl, rfl, Or.inl ⟨tGp6 189 rfl rfl, fun _ => rfl⟩⟩
theorem wX11_326 : FW RX11 326 10 68 (.array .int) true := ⟨_, _, _, cOK10, by decide, rfl, rfl, Or.inl ⟨tGp6 190 rfl rfl, fun _ => rfl⟩⟩
theorem wX11_329 : FW RX11 329 10 74 (.array .int) true := ⟨_, _, _, cOK10, by decide, rfl, rfl, Or.inl ⟨tGp6 196 rfl rfl, fun _ => rfl⟩⟩
theorem wX11_332 : FW RX11 332 10 75 (.array .int) true := ⟨_, _, _, cOK10, by decide, rfl, rfl, Or.inl ⟨tGp6 197 rfl rfl, fun _ => rfl⟩⟩
theorem wX11_339 : FW RX11 339 10 79 (.array .char) true := ⟨_, _, _, cOK10, by decide, rfl, rfl, Or.inl ⟨tGp6 201 rfl rfl, fun _ => rfl⟩⟩
theorem wX11_342 : FW RX11 342 10 80 (.array .char) true := ⟨_, _, _, cOK10, by decide, rfl, rfl, Or.inl ⟨tGp6 202 rfl rfl, fun _ => rfl⟩⟩
theorem wX11_345 : FW RX11 345 10 81 (.array .char) true := ⟨_, _, _, cOK10, by decide, rfl, rfl, Or.inl ⟨tGp6 203 rfl rfl, fun _ => rfl⟩⟩
theorem wX11_348 : FW RX11 348 10 82 (.array .char) true := ⟨_, _, _, cOK10, by decide, rfl, rfl, Or.inl ⟨tGp6 204 rfl rfl, fun _ => rfl⟩⟩
theorem wX11_351 : FW RX11 351 10 83 (.array .char) true := ⟨_, _, _, cOK10, by decide, rfl, rfl, Or.inl ⟨tGp6 205 rfl rfl, fun _ => rfl⟩⟩
theorem wX11_354 : FW RX11 354 10 84 (.array .char) true := ⟨_, _, _, cOK10, by decide, rfl, rfl, Or.inl ⟨tGp6 206 rfl rfl, fun _ => rfl⟩⟩
theorem wX11_357 : FW RX11 357 10 85 (.array .char) true := ⟨_, _, _, cOK10, by decide, rfl, rfl, Or.inl ⟨tGp6 207 rfl rfl, fun _ => rfl⟩⟩
theorem wX11_360 : FW RX11 360 10 86 (.array .char) true := ⟨_, _, _, cOK10, by decide, rfl, rfl, Or.inl ⟨tGp6 208 rfl rfl, fun _ => rfl⟩⟩
theorem wX11_363 : FW RX11 363 10 87 (.array .char) true := ⟨_, _, _, cOK10, by decide, rfl, rfl, Or.inl ⟨tGp6 209 rfl rfl, fun _ => rfl⟩⟩
theorem wX11_366 : FW RX11 366 10 88 (.array .char) true := ⟨_, _, _, cOK10, by decide, rfl, rfl, Or.inl ⟨tGp6 210 rfl rfl, fun _ => rfl⟩⟩
theorem wX11_369 : FW RX11 369 10 89 (.array .char) true := ⟨_, _, _, cOK10, by decide, rfl, rfl, Or.inl ⟨tGp6 211 rfl rfl, fun _ => rfl⟩⟩
theorem wX11_372 : FW RX11 372 10 90 (.array .char) true := ⟨_, _, _, cOK10, by decide, rfl, rfl, Or.inl ⟨tGp6 212 rfl rfl, fun _ => rfl⟩⟩
theorem wX11_375 : FW RX11 375 10 91 (.array .char) true := ⟨_, _, _, cOK10, by decide, rfl, rfl, Or.inl ⟨tGp6 213 rfl rfl, fun _ => rfl⟩⟩
theorem wX11_378 : FW RX11 378 10 92 (.array .char) true := ⟨_, _, _, cOK10, by decide, rfl, rfl, Or.inl ⟨tGp6 214 rfl rfl, fun _ => rfl⟩⟩
theorem wX11_381 : FW RX11 381 10 93 (.array .char) true := ⟨_, _, _, cOK10, by decide, rfl, rfl, Or.inl ⟨tGp6 215 rfl rfl, fun _ => rfl⟩⟩
theorem wX11_384 : FW RX11 384 10 94 (.array .char) true := ⟨_, _, _, cOK10, by decide, rfl, rfl, Or.inl ⟨tGp6 216 rfl rfl, fun _ => rfl⟩⟩
theorem wX11_387 : FW RX11 387 10 95 (.array .char) true := ⟨_, _, _, cOK10, by decide, rfl, rfl, Or.inl ⟨tGp6 217 rfl rfl, fun _ => rfl⟩⟩
theorem wX11_390 : FW RX11 390 10 96 (.array .char) true := ⟨_, _, _, cOK10, by decide, rfl, rfl, Or.inl ⟨tGp6 218 rfl rfl, fun _ => rfl⟩⟩
theorem wX11_393 : FW RX11 393 10 97 (.array .char) true := ⟨_, _, _, cOK10, by decide, rfl, rfl, Or.inl ⟨tGp6 219 rfl rfl, fun _ => rfl⟩⟩
theorem wX11_396 : FW RX11 396 10 98 (.array .char) true := ⟨_, _, _, cOK10, by decide, rfl, rfl, Or.inl ⟨tGp6 220 rfl rfl, fun _ => rfl⟩⟩
theorem wX11_399 : FW RX11 399 10 99 (.array .char) true := ⟨_, _, _, cOK10, by decide, rfl, rfl, Or.inl ⟨tGp6 221 rfl rfl, fun _ => rfl⟩⟩
theorem wX11_402 : FW RX11 402 10 100 (.array .char) true := ⟨_, _, _, cOK10, by decide, rfl, rfl, Or.inl ⟨tGp6 222 rfl rfl, fun _ => rfl⟩⟩
theorem wX11_405 : FW RX11 405 10 101 (.array .char) true := ⟨_, _, _, cOK10, by decide, rfl, rfl, Or.inl ⟨tGp6 223 rfl rfl, fun _ => rfl⟩⟩
theorem wX11_408 : FW RX11 408 10 102 (.array .char) true := ⟨_, _, _, cOK10, by decide, rfl, rfl, Or.inl ⟨tGp6 224 rfl rfl, fun _ => rfl⟩⟩
theorem wX11_257 : FW RX11 257 10 103 (.array .int) true := ⟨_, _, _, cOK10, by decide, rfl, rfl, Or.inl ⟨tGp6 225 rfl rfl, fun _ => rfl⟩⟩
theorem wX11_411 : FW RX11 411 10 105 (.array .int) true := ⟨_, _, _, cOK10, by decide, rfl, rfl, Or.inl ⟨tGp6 227 rfl rfl, fun _ => rfl⟩⟩
theorem wX11_414 : FW RX11 414 10 109 (.array .long) true := ⟨_, _, _, cOK10, by decide, rfl, rfl, Or.inl ⟨tGp6 231 rfl rfl, fun _ => rfl⟩⟩
theorem wX11_417 : FW RX11 417 10 113 (.array .int) true := ⟨_, _, _, cOK10, by decide, rfl, rfl, Or.inl ⟨tGp6 235 rfl rfl, fun _ => rfl⟩⟩
theorem G_Ma_0 {X : CX} {d : Nat} {WI WR : List (Int × Int × Int)} {Q : PV → PF → PF → Prop} (hd : 1 ≤ d) (hI : Lt WI 307) (hR : Lt WR 307) (k : Lt WI 308 → Lt ((306, 0, 307) :: WR) 308 → PW X d (MF.take 319) mX11_init (MF.take 243) 13 [(2, 306)] [] (wr WI) (wr ((306, 0, 307) :: WR)) (MF.take 244) Q) : PW X d (MF.take 319) mX11_init (MF.take 243) 0 [(2, 306)] [] (wr WI) (wr WR) (MF.take 243) Q := by
  refine P_aload_n (n := 0) (q := 1) rfl rfl (by decide +kernel) ?_
  refine P_objInit (ci := 10) (q := 4) (by decide +kernel) (by decide) (tGp6 121 rfl rfl) (tGp1 24 rfl rfl) (tGp1 25 rfl rfl) (by omega) (by decide) rfl (by decide +kernel) ?_
  refine P_aload_n (n := 0) (q := 5) rfl rfl (by decide +kernel) ?_
  refine P_sipush (n := 1600) (q := 8) rfl rfl (by decide +kernel) ?_
  refine T_newi (N := 1600) (c := 307) (n := 243) (q := 10) rfl (by decide) (by decide +kernel) (by decide) (by decide) (hI.up (by decide)) (hR.up (by decide)) rfl (by decide +kernel) ?_
  refine T_putR wX11_11 rfl (fun _ => rfl) (by decide +kernel) (q := 13) rfl (by decide +kernel) ?_
  exact k (hI.up (by decide)) (Lt.one (hR.up (by decide)) (by decide))
theorem G_Ma_13 {X : CX} {d : Nat} {WI WR : List (Int × Int × Int)} {Q : PV → PF → PF → Prop} (hd : 1 ≤ d) (hI : Lt WI 308) (hR : Lt WR 308) (k : Lt ((306, 8, (-1)) :: WI) 308 → Lt WR 308 → PW X d (MF.take 319) mX11_init (MF.take 243) 18 [(2, 306)] [] (wr ((306, 8, (-1)) :: WI)) (wr WR) (MF.take 244) Q) : PW X d (MF.take 319) mX11_init (MF.take 243) 13 [(2, 306)] [] (wr WI) (wr WR) (MF.take 244) Q := by
  refine P_aload_n (n := 0) (q := 14) rfl rfl (by decide +kernel) ?_
  refine P_iconst (n := -1) (q := 15) rfl (by decide +kernel) ?_
  refine T_putI wX11_290 (fun h => by cases h) (by decide +kernel) (q := 18) rfl (by decide +kernel) ?_
  exact k (Lt.one (hI.up (by decide)) (by decide)) (hR.up (by decide))
theorem G_Ma_18 {X : CX} {d : Nat} {WI WR : List (Int × Int × Int)} {Q : PV → PF → PF → Prop} (hd : 1 ≤ d) (hI : Lt WI 308) (hR : Lt WR 308) (k : Lt WI 309 → Lt ((306, 9, 308) :: WR) 309 → PW X d (MF.take 319) mX11_init (MF.take 243) 26 [(2, 306)] [] (wr WI) (wr ((306, 9, 308) :: WR)) (MF.take 245) Q) : PW X d (MF.take 319) mX11_init (MF.take 243) 18 [(2, 306)] [] (wr WI) (wr WR) (MF.take 244) Q := by
  refine P_aload_n (n := 0) (q := 19) rfl rfl (by decide +kernel) ?_
  refine P_bipush (n := 6) (q := 21) rfl rfl (by decide +kernel) ?_
  refine T_newi (N := 6) (c := 308) (n := 244) (q := 23) rfl (by decide) (by decide +kernel) (by decide) (by decide) (hI.up (by decide)) (hR.up (by decide)) rfl (by decide +kernel) ?_
  refine T_putR wX11_7 rfl (fun _ => rfl) (by decide +kernel) (q := 26) rfl (by decide +kernel) ?_
  exact k (hI.up (by decide)) (Lt.one (hR.up (by decide)) (by decide))
theorem G_Ma_26 {X : CX} {d : Nat} {WI WR : List (Int × Int × Int)} {Q : PV → PF → PF → Prop} (hd : 1 ≤ d) (hI : Lt WI 309) (hR : Lt WR 309) (k : Lt ((309, 5, 101) :: ((309, 4, 114) :: ((309, 3, 97) :: ((309, 2, 117) :: ((309, 1, 113) :: ((309, 0, 115) :: WI)))))) 310 → Lt ((306, 11, 309) :: WR) 310 → PW X d (MF.take 319) mX11_init (MF.take 243) 64 [(2, 306)] [] (wr ((309, 5, 101) :: ((309, 4, 114) :: ((309, 3, 97) :: ((309, 2, 117) :: ((309, 1, 113) :: ((309, 0, 115) :: WI))))))) (wr ((306, 11, 309) :: WR)) (MF.take 246) Q) : PW X d (MF.take 319) mX11_init (MF.take 243) 26 [(2, 306)] [] (wr WI) (wr WR) (MF.take 245) Q := by
  refine P_aload_n (n := 0) (q := 27) rfl rfl (by decide +kernel) ?_
  refine P_bipush (n := 6) (q := 29) rfl rfl (by decide +kernel) ?_
  refine T_newc (N := 6) (c := 309) (n := 245) (q := 31) rfl (by decide) (by decide +kernel) (by decide) (by decide) (hI.up (by decide)) (hR.up (by decide)) rfl (by decide +kernel) ?_
  refine P_dup (Nat.ne_of_beq_eq_false rfl) (q := 32) rfl (by decide +kernel) ?_
  refine P_iconst (n := 0) (q := 33) rfl (by decide +kernel) ?_
  refine P_bipush (n := 115) (q := 35) rfl rfl (by decide +kernel) ?_
  refine T_cast rfl (by decide +kernel) (by decide) (by decide +kernel) (q := 36) rfl (by decide +kernel) ?_
  refine P_dup (Nat.ne_of_beq_eq_false rfl) (q := 37) rfl (by decide +kernel) ?_
  refine P_iconst (n := 1) (q := 38) rfl (by decide +kernel) ?_
  refine P_bipush (n := 113) (q := 40) rfl rfl (by decide +kernel) ?_
  refine T_cast rfl (by decide +kernel) (by decide) (by decide +kernel) (q := 41) rfl (by decide +kernel) ?_
  refine P_dup (Nat.ne_of_beq_eq_false rfl) (q := 42) rfl (by decide +kernel) ?_
  refine P_iconst (n := 2) (q := 43) rfl (by decide +kernel) ?_
  refine P_bipush (n := 117) (q := 45) rfl rfl (by decide +kernel) ?_
  refine T_cast rfl (by decide +kernel) (by decide) (by decide +kernel) (q := 46) rfl (by decide +kernel) ?_
  refine P_dup (Nat.ne_of_beq_eq_false rfl) (q := 47) rfl (by decide +kernel) ?_
  refine P_iconst (n := 3) (q := 48) rfl (by decide +kernel) ?_
  refine P_bipush (n := 97) (q := 50) rfl rfl (by decide +kernel) ?_
  refine T_cast rfl (by decide +kernel) (by decide) (by decide +kernel) (q := 51) rfl (by decide +kernel) ?_
  refine P_dup (Nat.ne_of_beq_eq_false rfl) (q := 52) rfl (by decide +kernel) ?_
  refine P_iconst (n := 4) (q := 53) rfl (by decide +kernel) ?_
  refine P_bipush (n := 114) (q := 55) rfl rfl (by decide +kernel) ?_
  refine T_cast rfl (by decide +kernel) (by decide) (by decide +kernel) (q := 56) rfl (by decide +kernel) ?_
  refine P_dup (Nat.ne_of_beq_eq_false rfl) (q := 57) rfl (by decide +kernel) ?_
  refine P_iconst (n := 5) (q := 58) rfl (by decide +kernel) ?_
  refine P_bipush (n := 101) (q := 60) rfl rfl (by decide +kernel) ?_
  refine T_cast rfl (by decide +kernel) (by decide) (by decide +kernel) (q := 61) rfl (by decide +kernel) ?_
  refine T_putR wX11_61 rfl (fun _ => rfl) (by decide +kernel) (q := 64) rfl (by decide +kernel) ?_
  exact k (Lt.one (Lt.one (Lt.one (Lt.one (Lt.one (Lt.one (hI.up (by decide)) (by decide)) (by decide)) (by decide)) (by decide)) (by decide)) (by decide)) (Lt.one (hR.up (by decide)) (by decide))
theorem G_Ma_64 {X : CX} {d : Nat} {WI WR : List (Int × Int × Int)} {Q : PV → PF → PF → Prop} (hd : 1 ≤ d) (hI : Lt WI 310) (hR : Lt WR 310) (k : Lt ((310, 1, 121) :: ((310, 0, 98) :: WI)) 311 → Lt ((306, 12, 310) :: WR) 311 → PW X d (MF.take 319) mX11_init (MF.take 243) 81 [(2, 306)] [] (wr ((310, 1, 121) :: ((310, 0, 98) :: WI))) (wr ((306, 12, 310) :: WR)) (MF.take 247) Q) : PW X d (MF.take 319) mX11_init (MF.take 243) 64 [(2, 306)] [] (wr WI) (wr WR) (MF.take 246) Q := by
  refine P_aload_n (n := 0) (q := 65) rfl rfl (by decide +kernel) ?_
  refine P_iconst (n := 2) (q := 66) rfl (by decide +kernel) ?_
  refine T_newc (N := 2) (c := 310) (n := 246) (q := 68) rfl (by decide) (by decide +kernel) (by decide) (by decide) (hI.up (by decide)) (hR.up (by decide)) rfl (by decide +kernel) ?_
  refine P_dup (Nat.ne_of_beq_eq_false rfl) (q := 69) rfl (by decide +kernel) ?_
  refine P_iconst (n := 0) (q := 70) rfl (by decide +kernel) ?_
  refine P_bipush (n := 98) (q := 72) rfl rfl (by decide +kernel) ?_
  refine T_cast rfl (by decide +kernel) (by decide) (by decide +kernel) (q := 73) rfl (by decide +kernel) ?_
  refine P_dup (Nat.ne_of_beq_eq_false rfl) (q := 74) rfl (by decide +kernel) ?_
  refine P_iconst (n := 1) (q := 75) rfl (by decide +kernel) ?_
  refine P_bipush (n := 121) (q := 77) rfl rfl (by decide +kernel) ?_
  refine T_cast rfl (by decide +kernel) (by decide) (by decide +kernel) (q := 78) rfl (by decide +kernel) ?_
  refine T_putR wX11_65 rfl (fun _ => rfl) (by decide +kernel) (q := 81) rfl (by decide +kernel) ?_
  exact k (Lt.one (Lt.one (hI.up (by decide)) (by decide)) (by decide)) (Lt.one (hR.up (by decide)) (by decide))
theorem G_Ma_81 {X : CX} {d : Nat} {WI WR : List (Int × Int × Int)} {Q : PV → PF → PF → Prop} (hd : 1 ≤ d) (hI : Lt WI 311) (hR : Lt WR 311) (k : Lt ((311, 4, 114) :: ((311, 3, 101) :: ((311, 2, 119) :: ((311, 1, 111) :: ((311, 0, 116) :: WI))))) 312 → Lt ((306, 13, 311) :: WR) 312 → PW X d (MF.take 319) mX11_init (MF.take 243) 113 [(2, 306)] [] (wr ((311, 4, 114) :: ((311, 3, 101) :: ((311, 2, 119) :: ((311, 1, 111) :: ((311, 0, 116) :: WI)))))) (wr ((306, 13, 311) :: WR)) (MF.take 248) Q) : PW X d (MF.take 319) mX11_init (MF.take 243) 81 [(2, 306)] [] (wr WI) (wr WR) (MF.take 247) Q := by
  refine P_aload_n (n := 0) (q := 82) rfl rfl (by decide +kernel) ?_
  refine P_iconst (n := 5) (q := 83) rfl (by decide +kernel) ?_
  refine T_newc (N := 5) (c := 311) (n := 247) (q := 85) rfl (by decide) (by decide +kernel) (by decide) (by decide) (hI.up (by decide)) (hR.up (by decide)) rfl (by decide +kernel) ?_
  refine P_dup (Nat.ne_of_beq_eq_false rfl) (q := 86) rfl (by decide +kernel) ?_
  refine P_iconst (n := 0) (q := 87) rfl (by decide +kernel) ?_
  refine P_bipush (n := 116) (q := 89) rfl rfl (by decide +kernel) ?_
  refine T_cast rfl (by decide +kernel) (by decide) (by decide +kernel) (q := 90) rfl (by decide +kernel) ?_
  refine P_dup (Nat.ne_of_beq_eq_false rfl) (q := 91) rfl (by decide +kernel) ?_
  refine P_iconst (n := 1) (q := 92) rfl (by decide +kernel) ?_
  refine P_bipush (n := 111) (q := 94) rfl rfl (by decide +kernel) ?_
  refine T_cast rfl (by decide +kernel) (by decide) (by decide +kernel) (q := 95) rfl (by decide +kernel) ?_
  refine P_dup (Nat.ne_of_beq_eq_false rfl) (q := 96) rfl (by decide +kernel) ?_
  refine P_iconst (n := 2) (q := 97) rfl (by decide +kernel) ?_
  refine P_bipush (n := 119) (q := 99) rfl rfl (by decide +kernel) ?_
  refine T_cast rfl (by decide +kernel) (by decide) (by decide +kernel) (q := 100) rfl (by decide +kernel) ?_
  refine P_dup (Nat.ne_of_beq_eq_false rfl) (q := 101) rfl (by decide +kernel) ?_
  refine P_iconst (n := 3) (q := 102) rfl (by decide +kernel) ?_
  refine P_bipush (n := 101) (q := 104) rfl rfl (by decide +kernel) ?_
  refine T_cast rfl (by decide +kernel) (by decide) (by decide +kernel) (q := 105) rfl (by decide +kernel) ?_
  refine P_dup (Nat.ne_of_beq_eq_false rfl) (q := 106) rfl (by decide +kernel) ?_
  refine P_iconst (n := 4) (q := 107) rfl (by decide +kernel) ?_
  refine P_bipush (n := 114) (q := 109) rfl rfl (by decide +kernel) ?_
  refine T_cast rfl (by decide +kernel) (by decide) (by decide +kernel) (q := 110) rfl (by decide +kernel) ?_
  refine T_putR wX11_68 rfl (fun _ => rfl) (by decide +kernel) (q := 113) rfl (by decide +kernel) ?_
  exact k (Lt.one (Lt.one (Lt.one (Lt.one (Lt.one (hI.up (by decide)) (by decide)) (by decide)) (by decide)) (by decide)) (by decide)) (Lt.one (hR.up (by decide)) (by decide))
theorem G_Ma_113 {X : CX} {d : Nat} {WI WR : List (Int × Int × Int)} {Q : PV → PF → PF → Prop} (hd : 1 ≤ d) (hI : Lt WI 312) (hR : Lt WR 312) (k : Lt ((312, 3, 104) :: ((312, 2, 103) :: ((312, 1, 105) :: ((312, 0, 104) :: WI)))) 313 → Lt ((306, 14, 312) :: WR) 313 → PW X d (MF.take 319) mX11_init (MF.take 243) 140 [(2, 306)] [] (wr ((312, 3, 104) :: ((312, 2, 103) :: ((312, 1, 105) :: ((312, 0, 104) :: WI))))) (wr ((306, 14, 312) :: WR)) (MF.take 249) Q) : PW X d (MF.take 319) mX11_init (MF.take 243) 113 [(2, 306)] [] (wr WI) (wr WR) (MF.take 248) Q := by
  refine P_aload_n (n := 0) (q := 114) rfl rfl (by decide +kernel) ?_
  refine P_iconst (n := 4) (q := 115) rfl (by decide +kernel) ?_
  refine T_newc (N := 4) (c := 312) (n := 248) (q := 117) rfl (by decide) (by decide +kernel) (by decide) (by decide) (hI.up (by decide)) (hR.up (by decide)) rfl (by decide +kernel) ?_
  refine P_dup (Nat.ne_of_beq_eq_false rfl) (q := 118) rfl (by decide +kernel) ?_
  refine P_iconst (n := 0) (q := 119) rfl (by decide +kernel) ?_
  refine P_bipush (n := 104) (q := 121) rfl rfl (by decide +kernel) ?_
  refine T_cast rfl (by decide +kernel) (by decide) (by decide +kernel) (q := 122) rfl (by decide +kernel) ?_
  refine P_dup (Nat.ne_of_beq_eq_false rfl) (q := 123) rfl (by decide +kernel) ?_
  refine P_iconst (n := 1) (q := 124) rfl (by decide +kernel) ?_
  refine P_bipush (n := 105) (q := 126) rfl rfl (by decide +kernel) ?_
  refine T_cast rfl (by decide +kernel) (by decide) (by decide +kernel) (q := 127) rfl (by decide +kernel) ?_
  refine P_dup (Nat.ne_of_beq_eq_false rfl) (q := 128) rfl (by decide +kernel) ?_
  refine P_iconst (n := 2) (q := 129) rfl (by decide +kernel) ?_
  refine P_bipush (n := 103) (q := 131) rfl rfl (by decide +kernel) ?_
  refine T_cast rfl (by decide +kernel) (by decide) (by decide +kernel) (q := 132) rfl (by decide +kernel) ?_
  refine P_dup (Nat.ne_of_beq_eq_false rfl) (q := 133) rfl (by decide +kernel) ?_
  refine P_iconst (n := 3) (q := 134) rfl (by decide +kernel) ?_
  refine P_bipush (n := 104) (q := 136) rfl rfl (by decide +kernel) ?_
  refine T_cast rfl (by decide +kernel) (by decide) (by decide +kernel) (q := 137) rfl (by decide +kernel) ?_
  refine T_putR wX11_71 rfl (fun _ => rfl) (by decide +kernel) (q := 140) rfl (by decide +kernel) ?_
  exact k (Lt.one (Lt.one (Lt.one (Lt.one (hI.up (by decide)) (by decide)) (by decide)) (by decide)) (by decide)) (Lt.one (hR.up (by decide)) (by decide))
theorem G_Ma_140 {X : CX} {d : Nat} {WI WR : List (Int × Int × Int)} {Q : PV → PF → PF → Prop} (hd : 1 ≤ d) (hI : Lt WI 313) (hR : Lt WR 313) (k : Lt ((313, 2, 119) :: ((313, 1, 97) :: ((313, 0, 108) :: WI))) 314 → Lt ((306, 15, 313) :: WR) 314 → PW X d (MF.take 319) mX11_init (MF.take 243) 162 [(2, 306)] [] (wr ((313, 2, 119) :: ((313, 1, 97) :: ((313, 0, 108) :: WI)))) (wr ((306, 15, 313) :: WR)) (MF.take 250) Q) : PW X d (MF.take 319) mX11_init (MF.take 243) 140 [(2, 306)] [] (wr WI) (wr WR) (MF.take 249) Q := by
  refine P_aload_n (n := 0) (q := 141) rfl rfl (by decide +kernel) ?_
  refine P_iconst (n := 3) (q := 142) rfl (by decide +kernel) ?_
  refine T_newc (N := 3) (c := 313) (n := 249) (q := 144) rfl (by decide) (by decide +kernel) (by decide) (by decide) (hI.up (by decide)) (hR.up (by decide)) rfl (by decide +kernel) ?_
  refine P_dup (Nat.ne_of_beq_eq_false rfl) (q := 145) rfl (by decide +kernel) ?_
  refine P_iconst (n := 0) (q := 146) rfl (by decide +kernel) ?_
  refine P_bipush (n := 108) (q := 148) rfl rfl (by decide +kernel) ?_
  refine T_cast rfl (by decide +kernel) (by decide) (by decide +kernel) (q := 149) rfl (by decide +kernel) ?_
  refine P_dup (Nat.ne_of_beq_eq_false rfl) (q := 150) rfl (by decide +kernel) ?_
  refine P_iconst (n := 1) (q := 151) rfl (by decide +kernel) ?_
  refine P_bipush (n := 97) (q := 153) rfl rfl (by decide +kernel) ?_
  refine T_cast rfl (by decide +kernel) (by decide) (by decide +kernel) (q := 154) rfl (by decide +kernel) ?_
  refine P_dup (Nat.ne_of_beq_eq_false rfl) (q := 155) rfl (by decide +kernel) ?_
  refine P_iconst (n := 2) (q := 156) rfl (by decide +kernel) ?_
  refine P_bipush (n := 119) (q := 158) rfl rfl (by decide +kernel) ?_
  refine T_cast rfl (by decide +kernel) (by decide) (by decide +kernel) (q := 159) rfl (by decide +kernel) ?_
  refine T_putR wX11_74 rfl (fun _ => rfl) (by decide +kernel) (q := 162) rfl (by decide +kernel) ?_
  exact k (Lt.one (Lt.one (Lt.one (hI.up (by decide)) (by decide)) (by decide)) (by decide)) (Lt.one (hR.up (by decide)) (by decide))
theorem G_Ma_162 {X : CX} {d : Nat} {WI WR : List (Int × Int × Int)} {Q : PV → PF → PF → Prop} (hd : 1 ≤ d) (hI : Lt WI 314) (hR : Lt WR 314) (k : Lt ((314, 5, 110) :: ((314, 4, 111) :: ((314, 3, 115) :: ((314, 2, 114) :: ((314, 1, 101) :: ((314, 0, 112) :: WI)))))) 315 → Lt ((306, 16, 314) :: WR) 315 → PW X d (MF.take 319) mX11_init (MF.take 243) 200 [(2, 306)] [] (wr ((314, 5, 110) :: ((314, 4, 111) :: ((314, 3, 115) :: ((314, 2, 114) :: ((314, 1, 101) :: ((314, 0, 112) :: WI))))))) (wr ((306, 16, 314) :: WR)) (MF.take 251) Q) : PW X d (MF.take 319) mX11_init (MF.take 243) 162 [(2, 306)] [] (wr WI) (wr WR) (MF.take 250) Q := by
  refine P_aload_n (n := 0) (q := 163) rfl rfl (by decide +kernel) ?_
  refine P_bipush (n := 6) (q := 165) rfl rfl (by decide +kernel) ?_
  refine T_newc (N := 6) (c := 314) (n := 250) (q := 167) rfl (by decide) (by decide +kernel) (by decide) (by decide) (hI.up (by decide)) (hR.up (by decide)) rfl (by decide +kernel) ?_
  refine P_dup (Nat.ne_of_beq_eq_false rfl) (q := 168) rfl (by decide +kernel) ?_
  refine P_iconst (n := 0) (q := 169) rfl (by decide +kernel) ?_
  refine P_bipush (n := 112) (q := 171) rfl rfl (by decide +kernel) ?_
  refine T_cast rfl (by decide +kernel) (by decide) (by decide +kernel) (q := 172) rfl (by decide +kernel) ?_
  refine P_dup (Nat.ne_of_beq_eq_false rfl) (q := 173) rfl (by decide +kernel) ?_
  refine P_iconst (n := 1) (q := 174) rfl (by decide +kernel) ?_
  refine P_bipush (n := 101) (q := 176) rfl rfl (by decide +kernel) ?_
  refine T_cast rfl (by decide +kernel) (by decide) (by decide +kernel) (q := 177) rfl (by decide +kernel) ?_
  refine P_dup (Nat.ne_of_beq_eq_false rfl) (q := 178) rfl (by decide +kernel) ?_
  refine P_iconst (n := 2) (q := 179) rfl (by decide +kernel) ?_
  refine P_bipush (n := 114) (q := 181) rfl rfl (by decide +kernel) ?_
  refine T_cast rfl (by decide +kernel) (by decide) (by decide +kernel) (q := 182) rfl (by decide +kernel) ?_
  refine P_dup (Nat.ne_of_beq_eq_false rfl) (q := 183) rfl (by decide +kernel) ?_
  refine P_iconst (n := 3) (q := 184) rfl (by decide +kernel) ?_
  refine P_bipush (n := 115) (q := 186) rfl rfl (by decide +kernel) ?_
  refine T_cast rfl (by decide +kernel) (by decide) (by decide +kernel) (q := 187) rfl (by decide +kernel) ?_
  refine P_dup (Nat.ne_of_beq_eq_false rfl) (q := 188) rfl (by decide +kernel) ?_
  refine P_iconst (n := 4) (q := 189) rfl (by decide +kernel) ?_
  refine P_bipush (n := 111) (q := 191) rfl rfl (by decide +kernel) ?_
  refine T_cast rfl (by decide +kernel) (by decide) (by decide +kernel) (q := 192) rfl (by decide +kernel) ?_
  refine P_dup (Nat.ne_of_beq_eq_false rfl) (q := 193) rfl (by decide +kernel) ?_
  refine P_iconst (n := 5) (q := 194) rfl (by decide +kernel) ?_
  refine P_bipush (n := 110) (q := 196) rfl rfl (by decide +kernel) ?_
  refine T_cast rfl (by decide +kernel) (by decide) (by decide +kernel) (q := 197) rfl (by decide +kernel) ?_
  refine T_putR wX11_77 rfl (fun _ => rfl) (by decide +kernel) (q := 200) rfl (by decide +kernel) ?_
  exact k (Lt.one (Lt.one (Lt.one (Lt.one (Lt.one (Lt.one (hI.up (by decide)) (by decide)) (by decide)) (by decide)) (by decide)) (by decide)) (by decide)) (Lt.one (hR.up (by decide)) (by decide))
theorem G_Ma_200 {X : CX} {d : Nat} {WI WR : List (Int × Int × Int)} {Q : PV → PF → PF → Prop} (hd : 1 ≤ d) (hI : Lt WI 315) (hR : Lt WR 315) (k : Lt ((315, 1, 116) :: ((315, 0, 97) :: WI)) 316 → Lt ((306, 17, 315) :: WR) 316 → PW X d (MF.take 319) mX11_init (MF.take 243) 217 [(2, 306)] [] (wr ((315, 1, 116) :: ((315, 0, 97) :: WI))) (wr ((306, 17, 315) :: WR)) (MF.take 252) Q) : PW X d (MF.take 319) mX11_init (MF.take 243) 200 [(2, 306)] [] (wr WI) (wr WR) (MF.take 251) Q := by
  refine P_aload_n (n := 0) (q := 201) rfl rfl (by decide +kernel) ?_
  refine P_iconst (n := 2) (q := 202) rfl (by decide +kernel) ?_
  refine T_newc (N := 2) (c := 315) (n := 251) (q := 204) rfl (by decide) (by decide +kernel) (by decide) (by decide) (hI.up (by decide)) (hR.up (by decide)) rfl (by decide +kernel) ?_
  refine P_dup (Nat.ne_of_beq_eq_false rfl) (q := 205) rfl (by decide +kernel) ?_
  refine P_iconst (n := 0) (q := 206) rfl (by decide +kernel) ?_
  refine P_bipush (n := 97) (q := 208) rfl rfl (by decide +kernel) ?_
  refine T_cast rfl (by decide +kernel) (by decide) (by decide +kernel) (q := 209) rfl (by decide +kernel) ?_
  refine P_dup (Nat.ne_of_beq_eq_false rfl) (q := 210) rfl (by decide +kernel) ?_
  refine P_iconst (n := 1) (q := 211) rfl (by decide +kernel) ?_
  refine P_bipush (n := 116) (q := 213) rfl rfl (by decide +kernel) ?_
  refine T_cast rfl (by decide +kernel) (by decide) (by decide +kernel) (q := 214) rfl (by decide +kernel) ?_
  refine T_putR wX11_80 rfl (fun _ => rfl) (by decide +kernel) (q := 217) rfl (by decide +kernel) ?_
  exact k (Lt.one (Lt.one (hI.up (by decide)) (by decide)) (by decide)) (Lt.one (hR.up (by decide)) (by decide))
theorem G_Ma_217 {X : CX} {d : Nat} {WI WR : List (Int × Int × Int)} {Q : PV → PF → PF → Prop} (hd : 1 ≤ d) (hI : Lt WI 316) (hR : Lt WR 316) (k : Lt ((316, 3, 108) :: ((316, 2, 108) :: ((316, 1, 97) :: ((316, 0, 116) :: WI)))) 317 → Lt ((306, 18, 316) :: WR) 317 → PW X d (MF.take 319) mX11_init (MF.take 243) 244 [(2, 306)] [] (wr ((316, 3, 108) :: ((316, 2, 108) :: ((316, 1, 97) :: ((316, 0, 116) :: WI))))) (wr ((306, 18, 316) :: WR)) (MF.take 253) Q) : PW X d (MF.take 319) mX11_init (MF.take 243) 217 [(2, 306)] [] (wr WI) (wr WR) (MF.take 252) Q := by
  refine P_aload_n (n := 0) (q := 218) rfl rfl (by decide +kernel) ?_
  refine P_iconst (n := 4) (q := 219) rfl (by decide +kernel) ?_
  refine T_newc (N := 4) (c := 316) (n := 252) (q := 221) rfl (by decide) (by decide +kernel) (by decide) (by decide) (hI.up (by decide)) (hR.up (by decide)) rfl (by decide +kernel) ?_
  refine P_dup (Nat.ne_of_beq_eq_false rfl) (q := 222) rfl (by decide +kernel) ?_
  refine P_iconst (n := 0) (q := 223) rfl (by decide +kernel) ?_
  refine P_bipush (n := 116) (q := 225) rfl rfl (by decide +kernel) ?_
  refine T_cast rfl (by decide +kernel) (by decide) (by decide +kernel) (q := 226) rfl (by decide +kernel) ?_
  refine P_dup (Nat.ne_of_beq_eq_false rfl) (q := 227) rfl (by decide +kernel) ?_
  refine P_iconst (n := 1) (q := 228) rfl (by decide +kernel) ?_
  refine P_bipush (n := 97) (q := 230) rfl rfl (by decide +kernel) ?_
  refine T_cast rfl (by decide +kernel) (by decide) (by decide +kernel) (q := 231) rfl (by decide +kernel) ?_
  refine P_dup (Nat.ne_of_beq_eq_false rfl) (q := 232) rfl (by decide +kernel) ?_
  refine P_iconst (n := 2) (q := 233) rfl (by decide +kernel) ?_
  refine P_bipush (n := 108) (q := 235) rfl rfl (by decide +kernel) ?_
  refine T_cast rfl (by decide +kernel) (by decide) (by decide +kernel) (q := 236) rfl (by decide +kernel) ?_
  refine P_dup (Nat.ne_of_beq_eq_false rfl) (q := 237) rfl (by decide +kernel) ?_
  refine P_iconst (n := 3) (q := 238) rfl (by decide +kernel) ?_
  refine P_bipush (n := 108) (q := 240) rfl rfl (by decide +kernel) ?_
  refine T_cast rfl (by decide +kernel) (by decide) (by decide +kernel) (q := 241) rfl (by decide +kernel) ?_
  refine T_putR wX11_83 rfl (fun _ => rfl) (by decide +kernel) (q := 244) rfl (by decide +kernel) ?_
  exact k (Lt.one (Lt.one (Lt.one (Lt.one (hI.up (by decide)) (by decide)) (by decide)) (by decide)) (by decide)) (Lt.one (hR.up (by decide)) (by decide))
theorem G_Ma_244 {X : CX} {d : Nat} {WI WR : List (Int × Int × Int)} {Q : PV → PF → PF → Prop} (hd : 1 ≤ d) (hI : Lt WI 317) (hR : Lt WR 317) (k : Lt ((317, 3, 101) :: ((317, 2, 99) :: ((317, 1, 97) :: ((317, 0, 112) :: WI)))) 318 → Lt ((306, 19, 317) :: WR) 318 → PW X d (MF.take 319) mX11_init (MF.take 243) 271 [(2, 306)] [] (wr ((317, 3, 101) :: ((317, 2, 99) :: ((317, 1, 97) :: ((317, 0, 112) :: WI))))) (wr ((306, 19, 317) :: WR)) (MF.take 254) Q) : PW X d (MF.take 319) mX11_init (MF.take 243) 244 [(2, 306)] [] (wr WI) (wr WR) (MF.take 253) Q := by
  refine P_aload_n (n := 0) (q := 245) rfl rfl (by decide +kernel) ?_
  refine P_iconst (n := 4) (q := 246) rfl (by decide +kernel) ?_
  refine T_newc (N := 4) (c := 317) (n := 253) (q := 248) rfl (by decide) (by decide +kernel) (by decide) (by decide) (hI.up (by decide)) (hR.up (by decide)) rfl (by decide +kernel) ?_
  refine P_dup (Nat.ne_of_beq_eq_false rfl) (q := 249) rfl (by decide +kernel) ?_
  refine P_iconst (n := 0) (q := 250) rfl (by decide +kernel) ?_
  refine P_bipush (n := 112) (q := 252) rfl rfl (by decide +kernel) ?_
  refine T_cast rfl (by decide +kernel) (by decide) (by decide +kernel) (q := 253) rfl (by decide +kernel) ?_
  refine P_dup (Nat.ne_of_beq_eq_false rfl) (q := 254) rfl (by decide +kernel) ?_
  refine P_iconst (n := 1) (q := 255) rfl (by decide +kernel) ?_
  refine P_bipush (n := 97) (q := 257) rfl rfl (by decide +kernel) ?_
  refine T_cast rfl (by decide +kernel) (by decide) (by decide +kernel) (q := 258) rfl (by decide +kernel) ?_
  refine P_dup (Nat.ne_of_beq_eq_false rfl) (q := 259) rfl (by decide +kernel) ?_
  refine P_iconst (n := 2) (q := 260) rfl (by decide +kernel) ?_
  refine P_bipush (n := 99) (q := 262) rfl rfl (by decide +kernel) ?_
  refine T_cast rfl (by decide +kernel) (by decide) (by decide +kernel) (q := 263) rfl (by decide +kernel) ?_
  refine P_dup (Nat.ne_of_beq_eq_false rfl) (q := 264) rfl (by decide +kernel) ?_
  refine P_iconst (n := 3) (q := 265) rfl (by decide +kernel) ?_
  refine P_bipush (n := 101) (q := 267) rfl rfl (by decide +kernel) ?_
  refine T_cast rfl (by decide +kernel) (by decide) (by decide +kernel) (q := 268) rfl (by decide +kernel) ?_
  refine T_putR wX11_86 rfl (fun _ => rfl) (by decide +kernel) (q := 271) rfl (by decide +kernel) ?_
  exact k (Lt.one (Lt.one (Lt.one (Lt.one (hI.up (by decide)) (by decide)) (by decide)) (by decide)) (by decide)) (Lt.one (hR.up (by decide)) (by decide))
theorem G_Ma_271 {X : CX} {d : Nat} {WI WR : List (Int × Int × Int)} {Q : PV → PF → PF → Prop} (hd : 1 ≤ d) (hI : Lt WI 318) (hR : Lt WR 318) (k : Lt ((318, 3, 115) :: ((318, 2, 101) :: ((318, 1, 111) :: ((318, 0, 100) :: WI)))) 319 → Lt ((306, 20, 318) :: WR) 319 → PW X d (MF.take 319) mX11_init (MF.take 243) 298 [(2, 306)] [] (wr ((318, 3, 115) :: ((318, 2, 101) :: ((318, 1, 111) :: ((318, 0, 100) :: WI))))) (wr ((306, 20, 318) :: WR)) (MF.take 255) Q) : PW X d (MF.take 319) mX11_init (MF.take 243) 271 [(2, 306)] [] (wr WI) (wr WR) (MF.take 254) Q := by
  refine P_aload_n (n := 0) (q := 272) rfl rfl (by decide +kernel) ?_
  refine P_iconst (n := 4) (q := 273) rfl (by decide +kernel) ?_
  refine T_newc (N := 4) (c := 318) (n := 254) (q := 275) rfl (by decide) (by decide +kernel) (by decide) (by decide) (hI.up (by decide)) (hR.up (by decide)) rfl (by decide +kernel) ?_
  refine P_dup (Nat.ne_of_beq_eq_false rfl) (q := 276) rfl (by decide +kernel) ?_
  refine P_iconst (n := 0) (q := 277) rfl (by decide +kernel) ?_
  refine P_bipush (n := 100) (q := 279) rfl rfl (by decide +kernel) ?_
  refine T_cast rfl (by decide +kernel) (by decide) (by decide +kernel) (q := 280) rfl (by decide +kernel) ?_
  refine P_dup (Nat.ne_of_beq_eq_false rfl) (q := 281) rfl (by decide +kernel) ?_
  refine P_iconst (n := 1) (q := 282) rfl (by decide +kernel) ?_
  refine P_bipush (n := 111) (q := 284) rfl rfl (by decide +kernel) ?_
  refine T_cast rfl (by decide +kernel) (by decide) (by decide +kernel) (q := 285) rfl (by decide +kernel) ?_
  refine P_dup (Nat.ne_of_beq_eq_false rfl) (q := 286) rfl (by decide +kernel) ?_
  refine P_iconst (n := 2) (q := 287) rfl (by decide +kernel) ?_
  refine P_bipush (n := 101) (q := 289) rfl rfl (by decide +kernel) ?_
  refine T_cast rfl (by decide +kernel) (by decide) (by decide +kernel) (q := 290) rfl (by decide +kernel) ?_
  refine P_dup (Nat.ne_of_beq_eq_false rfl) (q := 291) rfl (by decide +kernel) ?_
  refine P_iconst (n := 3) (q := 292) rfl (by decide +kernel) ?_
  refine P_bipush (n := 115) (q := 294) rfl rfl (by decide +kernel) ?_
  refine T_cast rfl (by decide +kernel) (by decide) (by decide +kernel) (q := 295) rfl (by decide +kernel) ?_
  refine T_putR wX11_89 rfl (fun _ => rfl) (by decide +kernel) (q := 298) rfl (by decide +kernel) ?_
  exact k (Lt.one (Lt.one (Lt.one (Lt.one (hI.up (by decide)) (by decide)) (by decide)) (by decide)) (by decide)) (Lt.one (hR.up (by decide)) (by decide))
theorem G_Ma_298 {X : CX} {d : Nat} {WI WR : List (Int × Int × Int)} {Q : PV → PF → PF → Prop} (hd : 1 ≤ d) (hI : Lt WI 319) (hR : Lt WR 319) (k : Lt ((319, 3, 110) :: ((319, 2, 105) :: ((319, 1, 112) :: ((319, 0, 115) :: WI)))) 320 → Lt ((306, 21, 319) :: WR) 320 → PW X d (MF.take 319) mX11_init (MF.take 243) 325 [(2, 306)] [] (wr ((319, 3, 110) :: ((319, 2, 105) :: ((319, 1, 112) :: ((319, 0, 115) :: WI))))) (wr ((306, 21, 319) :: WR)) (MF.take 256) Q) : PW X d (MF.take 319) mX11_init (MF.take 243) 298 [(2, 306)] [] (wr WI) (wr WR) (MF.take 255) Q := by
  refine P_aload_n (n := 0) (q := 299) rfl rfl (by decide +kernel) ?_
  refine P_iconst (n := 4) (q := 300) rfl (by decide +kernel) ?_
  refine T_newc (N := 4) (c := 319) (n := 255) (q := 302) rfl (by decide) (by decide +kernel) (by decide) (by decide) (hI.up (by decide)) (hR.up (by decide)) rfl (by decide +kernel) ?_
  refine P_dup (Nat.ne_of_beq_eq_false rfl) (q := 303) rfl (by decide +kernel) ?_
  refine P_iconst (n := 0) (q := 304) rfl (by decide +kernel) ?_
  refine P_bipush (n := 115) (q := 306) rfl rfl (by decide +kernel) ?_
  refine T_cast rfl (by decide +kernel) (by decide) (by decide +kernel) (q := 307) rfl (by decide +kernel) ?_
  refine P_dup (Nat.ne_of_beq_eq_false rfl) (q := 308) rfl (by decide +kernel) ?_
  refine P_iconst (n := 1) (q := 309) rfl (by decide +kernel) ?_
  refine P_bipush (n := 112) (q := 311) rfl rfl (by decide +kernel) ?_
  refine T_cast rfl (by decide +kernel) (by decide) (by decide +kernel) (q := 312) rfl (by decide +kernel) ?_
  refine P_dup (Nat.ne_of_beq_eq_false rfl) (q := 313) rfl (by decide +kernel) ?_
  refine P_iconst (n := 2) (q := 314) rfl (by decide +kernel) ?_
  refine P_bipush (n := 105) (q := 316) rfl rfl (by decide +kernel) ?_
  refine T_cast rfl (by decide +kernel) (by decide) (by decide +kernel) (q := 317) rfl (by decide +kernel) ?_
  refine P_dup (Nat.ne_of_beq_eq_false rfl) (q := 318) rfl (by decide +kernel) ?_
  refine P_iconst (n := 3) (q := 319) rfl (by decide +kernel) ?_
  refine P_bipush (n := 110) (q := 321) rfl rfl (by decide +kernel) ?_
  refine T_cast rfl (by decide +kernel) (by decide) (by decide +kernel) (q := 322) rfl (by decide +kernel) ?_
  refine T_putR wX11_92 rfl (fun _ => rfl) (by decide +kernel) (q := 325) rfl (by decide +kernel) ?_
  exact k (Lt.one (Lt.one (Lt.one (Lt.one (hI.up (by decide)) (by decide)) (by decide)) (by decide)) (by decide)) (Lt.one (hR.up (by decide)) (by decide))
theorem G_Ma_325 {X : CX} {d : Nat} {WI WR : List (Int × Int × Int)} {Q : PV → PF → PF → Prop} (hd : 1 ≤ d) (hI : Lt WI 320) (hR : Lt WR 320) (k : Lt ((320, 4, 101) :: ((320, 3, 99) :: ((320, 2, 114) :: ((320, 1, 111) :: ((320, 0, 102) :: WI))))) 321 → Lt ((306, 22, 320) :: WR) 321 → PW X d (MF.take 319) mX11_init (MF.take 243) 357 [(2, 306)] [] (wr ((320, 4, 101) :: ((320, 3, 99) :: ((320, 2, 114) :: ((320, 1, 111) :: ((320, 0, 102) :: WI)))))) (wr ((306, 22, 320) :: WR)) (MF.take 257) Q) : PW X d (MF.take 319) mX11_init (MF.take 243) 325 [(2, 306)] [] (wr WI) (wr WR) (MF.take 256) Q := by
  refine P_aload_n (n := 0) (q := 326) rfl rfl (by decide +kernel) ?_
  refine P_iconst (n := 5) (q := 327) rfl (by decide +kernel) ?_
  refine T_newc (N := 5) (c := 320) (n := 256) (q := 329) rfl (by decide) (by decide +kernel) (by decide) (by decide) (hI.up (by decide)) (hR.up (by decide)) rfl (by decide +kernel) ?_
  refine P_dup (Nat.ne_of_beq_eq_false rfl) (q := 330) rfl (by decide +kernel) ?_
  refine P_iconst (n := 0) (q := 331) rfl (by decide +kernel) ?_
  refine P_bipush (n := 102) (q := 333) rfl rfl (by decide +kernel) ?_
  refine T_cast rfl (by decide +kernel) (by decide) (by decide +kernel) (q := 334) rfl (by decide +kernel) ?_
  refine P_dup (Nat.ne_of_beq_eq_false rfl) (q := 335) rfl (by decide +kernel) ?_
  refine P_iconst (n := 1) (q := 336) rfl (by decide +kernel) ?_
  refine P_bipush (n := 111) (q := 338) rfl rfl (by decide +kernel) ?_
  refine T_cast rfl (by decide +kernel) (by decide) (by decide +kernel) (q := 339) rfl (by decide +kernel) ?_
  refine P_dup (Nat.ne_of_beq_eq_false rfl) (q := 340) rfl (by decide +kernel) ?_
  refine P_iconst (n := 2) (q := 341) rfl (by decide +kernel) ?_
  refine P_bipush (n := 114) (q := 343) rfl rfl (by decide +kernel) ?_
  refine T_cast rfl (by decide +kernel) (by decide) (by decide +kernel) (q := 344) rfl (by decide +kernel) ?_
  refine P_dup (Nat.ne_of_beq_eq_false rfl) (q := 345) rfl (by decide +kernel) ?_
  refine P_iconst (n := 3) (q := 346) rfl (by decide +kernel) ?_
  refine P_bipush (n := 99) (q := 348) rfl rfl (by decide +kernel) ?_
  refine T_cast rfl (by decide +kernel) (by decide) (by decide +kernel) (q := 349) rfl (by decide +kernel) ?_
  refine P_dup (Nat.ne_of_beq_eq_false rfl) (q := 350) rfl (by decide +kernel) ?_
  refine P_iconst (n := 4) (q := 351) rfl (by decide +kernel) ?_
  refine P_bipush (n := 101) (q := 353) rfl rfl (by decide +kernel) ?_
  refine T_cast rfl (by decide +kernel) (by decide) (by decide +kernel) (q := 354) rfl (by decide +kernel) ?_
  refine T_putR wX11_95 rfl (fun _ => rfl) (by decide +kernel) (q := 357) rfl (by decide +kernel) ?_
  exact k (Lt.one (Lt.one (Lt.one (Lt.one (Lt.one (hI.up (by decide)) (by decide)) (by decide)) (by decide)) (by decide)) (by decide)) (Lt.one (hR.up (by decide)) (by decide))
theorem G_Ma_357 {X : CX} {d : Nat} {WI WR : List (Int × Int × Int)} {Q : PV → PF → PF → Prop} (hd : 1 ≤ d) (hI : Lt WI 321) (hR : Lt WR 321) (k : Lt ((321, 3, 108) :: ((321, 2, 108) :: ((321, 1, 97) :: ((321, 0, 119) :: WI)))) 322 → Lt ((306, 23, 321) :: WR) 322 → PW X d (MF.take 319) mX11_init (MF.take 243) 384 [(2, 306)] [] (wr ((321, 3, 108) :: ((321, 2, 108) :: ((321, 1, 97) :: ((321, 0, 119) :: WI))))) (wr ((306, 23, 321) :: WR)) (MF.take 258) Q) : PW X d (MF.take 319) mX11_init (MF.take 243) 357 [(2, 306)] [] (wr WI) (wr WR) (MF.take 257) Q := by
  refine P_aload_n (n := 0) (q := 358) rfl rfl (by decide +kernel) ?_
  refine P_iconst (n := 4) (q := 359) rfl (by decide +kernel) ?_
  refine T_newc (N := 4) (c := 321) (n := 257) (q := 361) rfl (by decide) (by decide +kernel) (by decide) (by decide) (hI.up (by decide)) (hR.up (by decide)) rfl (by decide +kernel) ?_
  refine P_dup (Nat.ne_of_beq_eq_false rfl) (q := 362) rfl (by decide +kernel) ?_
  refine P_iconst (n := 0) (q := 363) rfl (by decide +kernel) ?_
  refine P_bipush (n := 119) (q := 365) rfl rfl (by decide +kernel) ?_
  refine T_cast rfl (by decide +kernel) (by decide) (by decide +kernel) (q := 366) rfl (by decide +kernel) ?_
  refine P_dup (Nat.ne_of_beq_eq_false rfl) (q := 367) rfl (by decide +kernel) ?_
  refine P_iconst (n := 1) (q := 368) rfl (by decide +kernel) ?_
  refine P_bipush (n := 97) (q := 370) rfl rfl (by decide +kernel) ?_
  refine T_cast rfl (by decide +kernel) (by decide) (by decide +kernel) (q := 371) rfl (by decide +kernel) ?_
  refine P_dup (Nat.ne_of_beq_eq_false rfl) (q := 372) rfl (by decide +kernel) ?_
  refine P_iconst (n := 2) (q := 373) rfl (by decide +kernel) ?_
  refine P_bipush (n := 108) (q := 375) rfl rfl (by decide +kernel) ?_
  refine T_cast rfl (by decide +kernel) (by decide) (by decide +kernel) (q := 376) rfl (by decide +kernel) ?_
  refine P_dup (Nat.ne_of_beq_eq_false rfl) (q := 377) rfl (by decide +kernel) ?_
  refine P_iconst (n := 3) (q := 378) rfl (by decide +kernel) ?_
  refine P_bipush (n := 108) (q := 380) rfl rfl (by decide +kernel) ?_
  refine T_cast rfl (by decide +kernel) (by decide) (by decide +kernel) (q := 381) rfl (by decide +kernel) ?_
  refine T_putR wX11_98 rfl (fun _ => rfl) (by decide +kernel) (q := 384) rfl (by decide +kernel) ?_
  exact k (Lt.one (Lt.one (Lt.one (Lt.one (hI.up (by decide)) (by decide)) (by decide)) (by decide)) (by decide)) (Lt.one (hR.up (by decide)) (by decide))
theorem G_Ma_384 {X : CX} {d : Nat} {WI WR : List (Int × Int × Int)} {Q : PV → PF → PF → Prop} (hd : 1 ≤ d) (hI : Lt WI 322) (hR : Lt WR 322) (k : Lt ((322, 4, 115) :: ((322, 3, 100) :: ((322, 2, 110) :: ((322, 1, 105) :: ((322, 0, 119) :: WI))))) 323 → Lt ((306, 24, 322) :: WR) 323 → PW X d (MF.take 319) mX11_init (MF.take 243) 416 [(2, 306)] [] (wr ((322, 4, 115) :: ((322, 3, 100) :: ((322, 2, 110) :: ((322, 1, 105) :: ((322, 0, 119) :: WI)))))) (wr ((306, 24, 322) :: WR)) (MF.take 259) Q) : PW X d (MF.take 319) mX11_init (MF.take 243) 384 [(2, 306)] [] (wr WI) (wr WR) (MF.take 258) Q := by
  refine P_aload_n (n := 0) (q := 385) rfl rfl (by decide +kernel) ?_
  refine P_iconst (n := 5) (q := 386) rfl (by decide +kernel) ?_
  refine T_newc (N := 5) (c := 322) (n := 258) (q := 388) rfl (by decide) (by decide +kernel) (by decide) (by decide) (hI.up (by decide)) (hR.up (by decide)) rfl (by decide +kernel) ?_
  refine P_dup (Nat.ne_of_beq_eq_false rfl) (q := 389) rfl (by decide +kernel) ?_
  refine P_iconst (n := 0) (q := 390) rfl (by decide +kernel) ?_
  refine P_bipush (n := 119) (q := 392) rfl rfl (by decide +kernel) ?_
  refine T_cast rfl (by decide +kernel) (by decide) (by decide +kernel) (q := 393) rfl (by decide +kernel) ?_
  refine P_dup (Nat.ne_of_beq_eq_false rfl) (q := 394) rfl (by decide +kernel) ?_
  refine P_iconst (n := 1) (q := 395) rfl (by decide +kernel) ?_
  refine P_bipush (n := 105) (q := 397) rfl rfl (by decide +kernel) ?_
  refine T_cast rfl (by decide +kernel) (by decide) (by decide +kernel) (q := 398) rfl (by decide +kernel) ?_
  refine P_dup (Nat.ne_of_beq_eq_false rfl) (q := 399) rfl (by decide +kernel) ?_
  refine P_iconst (n := 2) (q := 400) rfl (by decide +kernel) ?_
  refine P_bipush (n := 110) (q := 402) rfl rfl (by decide +kernel) ?_
  refine T_cast rfl (by decide +kernel) (by decide) (by decide +kernel) (q := 403) rfl (by decide +kernel) ?_
  refine P_dup (Nat.ne_of_beq_eq_false rfl) (q := 404) rfl (by decide +kernel) ?_
  refine P_iconst (n := 3) (q := 405) rfl (by decide +kernel) ?_
  refine P_bipush (n := 100) (q := 407) rfl rfl (by decide +kernel) ?_
  refine T_cast rfl (by decide +kernel) (by decide) (by decide +kernel) (q := 408) rfl (by decide +kernel) ?_
  refine P_dup (Nat.ne_of_beq_eq_false rfl) (q := 409) rfl (by decide +kernel) ?_
  refine P_iconst (n := 4) (q := 410) rfl (by decide +kernel) ?_
  refine P_bipush (n := 115) (q := 412) rfl rfl (by decide +kernel) ?_
  refine T_cast rfl (by decide +kernel) (by decide) (by decide +kernel) (q := 413) rfl (by decide +kernel) ?_
  refine T_putR wX11_101 rfl (fun _ => rfl) (by decide +kernel) (q := 416) rfl (by decide +kernel) ?_
  exact k (Lt.one (Lt.one (Lt.one (Lt.one (Lt.one (hI.up (by decide)) (by decide)) (by decide)) (by decide)) (by decide)) (by decide)) (Lt.one (hR.up (by decide)) (by decide))
theorem G_Ma_416 {X : CX} {d : Nat} {WI WR : List (Int × Int × Int)} {Q : PV → PF → PF → Prop} (hd : 1 ≤ d) (hI : Lt WI 323) (hR : Lt WR 323) (k : Lt ((323, 2, 121) :: ((323, 1, 97) :: ((323, 0, 109) :: WI))) 324 → Lt ((306, 25, 323) :: WR) 324 → PW X d (MF.take 319) mX11_init (MF.take 243) 438 [(2, 306)] [] (wr ((323, 2, 121) :: ((323, 1, 97) :: ((323, 0, 109) :: WI)))) (wr ((306, 25, 323) :: WR)) (MF.take 260) Q) : PW X d (MF.take 319) mX11_init (MF.take 243) 416 [(2, 306)] [] (wr WI) (wr WR) (MF.take 259) Q := by
  refine P_aload_n (n := 0) (q := 417) rfl rfl (by decide +kernel) ?_
  refine P_iconst (n := 3) (q := 418) rfl (by decide +kernel) ?_
  refine T_newc (N := 3) (c := 323) (n := 259) (q := 420) rfl (by decide) (by decide +kernel) (by decide) (by decide) (hI.up (by decide)) (hR.up (by decide)) rfl (by decide +kernel) ?_
  refine P_dup (Nat.ne_of_beq_eq_false rfl) (q := 421) rfl (by decide +kernel) ?_
  refine P_iconst (n := 0) (q := 422) rfl (by decide +kernel) ?_
  refine P_bipush (n := 109) (q := 424) rfl rfl (by decide +kernel) ?_
  refine T_cast rfl (by decide +kernel) (by decide) (by decide +kernel) (q := 425) rfl (by decide +kernel) ?_
  refine P_dup (Nat.ne_of_beq_eq_false rfl) (q := 426) rfl (by decide +kernel) ?_
  refine P_iconst (n := 1) (q := 427) rfl (by decide +kernel) ?_
  refine P_bipush (n := 97) (q := 429) rfl rfl (by decide +kernel) ?_
  refine T_cast rfl (by decide +kernel) (by decide) (by decide +kernel) (q := 430) rfl (by decide +kernel) ?_
  refine P_dup (Nat.ne_of_beq_eq_false rfl) (q := 431) rfl (by decide +kernel) ?_
  refine P_iconst (n := 2) (q := 432) rfl (by decide +kernel) ?_
  refine P_bipush (n := 121) (q := 434) rfl rfl (by decide +kernel) ?_
  refine T_cast rfl (by decide +kernel) (by decide) (by decide +kernel) (q := 435) rfl (by decide +kernel) ?_
  refine T_putR wX11_104 rfl (fun _ => rfl) (by decide +kernel) (q := 438) rfl (by decide +kernel) ?_
  exact k (Lt.one (Lt.one (Lt.one (hI.up (by decide)) (by decide)) (by decide)) (by decide)) (Lt.one (hR.up (by decide)) (by decide))
theorem G_Ma_438 {X : CX} {d : Nat} {WI WR : List (Int × Int × Int)} {Q : PV → PF → PF → Prop} (hd : 1 ≤ d) (hI : Lt WI 324) (hR : Lt WR 324) (k : Lt ((324, 3, 116) :: ((324, 2, 115) :: ((324, 1, 117) :: ((324, 0, 103) :: WI)))) 325 → Lt ((306, 26, 324) :: WR) 325 → PW X d (MF.take 319) mX11_init (MF.take 243) 465 [(2, 306)] [] (wr ((324, 3, 116) :: ((324, 2, 115) :: ((324, 1, 117) :: ((324, 0, 103) :: WI))))) (wr ((306, 26, 324) :: WR)) (MF.take 261) Q) : PW X d (MF.take 319) mX11_init (MF.take 243) 438 [(2, 306)] [] (wr WI) (wr WR) (MF.take 260) Q := by
  refine P_aload_n (n := 0) (q := 439) rfl rfl (by decide +kernel) ?_
  refine P_iconst (n := 4) (q := 440) rfl (by decide +kernel) ?_
  refine T_newc (N := 4) (c := 324) (n := 260) (q := 442) rfl (by decide) (by decide +kernel) (by decide) (by decide) (hI.up (by decide)) (hR.up (by decide)) rfl (by decide +kernel) ?_
  refine P_dup (Nat.ne_of_beq_eq_false rfl) (q := 443) rfl (by decide +kernel) ?_
  refine P_iconst (n := 0) (q := 444) rfl (by decide +kernel) ?_
  refine P_bipush (n := 103) (q := 446) rfl rfl (by decide +kernel) ?_
  refine T_cast rfl (by decide +kernel) (by decide) (by decide +kernel) (q := 447) rfl (by decide +kernel) ?_
  refine P_dup (Nat.ne_of_beq_eq_false rfl) (q := 448) rfl (by decide +kernel) ?_
  refine P_iconst (n := 1) (q := 449) rfl (by decide +kernel) ?_
  refine P_bipush (n := 117) (q := 451) rfl rfl (by decide +kernel) ?_
  refine T_cast rfl (by decide +kernel) (by decide) (by decide +kernel) (q := 452) rfl (by decide +kernel) ?_
  refine P_dup (Nat.ne_of_beq_eq_false rfl) (q := 453) rfl (by decide +kernel) ?_
  refine P_iconst (n := 2) (q := 454) rfl (by decide +kernel) ?_
  refine P_bipush (n := 115) (q := 456) rfl rfl (by decide +kernel) ?_
  refine T_cast rfl (by decide +kernel) (by decide) (by decide +kernel) (q := 457) rfl (by decide +kernel) ?_
  refine P_dup (Nat.ne_of_beq_eq_false rfl) (q := 458) rfl (by decide +kernel) ?_
  refine P_iconst (n := 3) (q := 459) rfl (by decide +kernel) ?_
  refine P_bipush (n := 116) (q := 461) rfl rfl (by decide +kernel) ?_
  refine T_cast rfl (by decide +kernel) (by decide) (by decide +kernel) (q := 462) rfl (by decide +kernel) ?_
  refine T_putR wX11_107 rfl (fun _ => rfl) (by decide +kernel) (q := 465) rfl (by decide +kernel) ?_
  exact k (Lt.one (Lt.one (Lt.one (Lt.one (hI.up (by decide)) (by decide)) (by decide)) (by decide)) (by decide)) (Lt.one (hR.up (by decide)) (by decide))
theorem G_Ma_465 {X : CX} {d : Nat} {WI WR : List (Int × Int × Int)} {Q : PV → PF → PF → Prop} (hd : 1 ≤ d) (hI : Lt WI 325) (hR : Lt WR 325) (k : Lt ((325, 3, 110) :: ((325, 2, 111) :: ((325, 1, 111) :: ((325, 0, 110) :: WI)))) 326 → Lt ((306, 27, 325) :: WR) 326 → PW X d (MF.take 319) mX11_init (MF.take 243) 492 [(2, 306)] [] (wr ((325, 3, 110) :: ((325, 2, 111) :: ((325, 1, 111) :: ((325, 0, 110) :: WI))))) (wr ((306, 27, 325) :: WR)) (MF.take 262) Q) : PW X d (MF.take 319) mX11_init (MF.take 243) 465 [(2, 306)] [] (wr WI) (wr WR) (MF.take 261) Q := by
  refine P_aload_n (n := 0) (q := 466) rfl rfl (by decide +kernel) ?_
  refine P_iconst (n := 4) (q := 467) rfl (by decide +kernel) ?_
  refine T_newc (N := 4) (c := 325) (n := 261) (q := 469) rfl (by decide) (by decide +kernel) (by decide) (by decide) (hI.up (by decide)) (hR.up (by decide)) rfl (by decide +kernel) ?_
  refine P_dup (Nat.ne_of_beq_eq_false rfl) (q := 470) rfl (by decide +kernel) ?_
  refine P_iconst (n := 0) (q := 471) rfl (by decide +kernel) ?_
  refine P_bipush (n := 110) (q := 473) rfl rfl (by decide +kernel) ?_
  refine T_cast rfl (by decide +kernel) (by decide) (by decide +kernel) (q := 474) rfl (by decide +kernel) ?_
  refine P_dup (Nat.ne_of_beq_eq_false rfl) (q := 475) rfl (by decide +kernel) ?_
  refine P_iconst (n := 1) (q := 476) rfl (by decide +kernel) ?_
  refine P_bipush (n := 111) (q := 478) rfl rfl (by decide +kernel) ?_
  refine T_cast rfl (by decide +kernel) (by decide) (by decide +kernel) (q := 479) rfl (by decide +kernel) ?_
  refine P_dup (Nat.ne_of_beq_eq_false rfl) (q := 480) rfl (by decide +kernel) ?_
  refine P_iconst (n := 2) (q := 481) rfl (by decide +kernel) ?_
  refine P_bipush (n := 111) (q := 483) rfl rfl (by decide +kernel) ?_
  refine T_cast rfl (by decide +kernel) (by decide) (by decide +kernel) (q := 484) rfl (by decide +kernel) ?_
  refine P_dup (Nat.ne_of_beq_eq_false rfl) (q := 485) rfl (by decide +kernel) ?_
  refine P_iconst (n := 3) (q := 486) rfl (by decide +kernel) ?_
  refine P_bipush (n := 110) (q := 488) rfl rfl (by decide +kernel) ?_
  refine T_cast rfl (by decide +kernel) (by decide) (by decide +kernel) (q := 489) rfl (by decide +kernel) ?_
  refine T_putR wX11_110 rfl (fun _ => rfl) (by decide +kernel) (q := 492) rfl (by decide +kernel) ?_
  exact k (Lt.one (Lt.one (Lt.one (Lt.one (hI.up (by decide)) (by decide)) (by decide)) (by decide)) (by decide)) (Lt.one (hR.up (by decide)) (by decide))
theorem G_Ma_492 {X : CX} {d : Nat} {WI WR : List (Int × Int × Int)} {Q : PV → PF → PF → Prop} (hd : 1 ≤ d) (hI : Lt WI 326) (hR : Lt WR 326) (k : Lt ((326, 5, 116) :: ((326, 4, 104) :: ((326, 3, 103) :: ((326, 2, 105) :: ((326, 1, 101) :: ((326, 0, 104) :: WI)))))) 327 → Lt ((306, 28, 326) :: WR) 327 → PW X d (MF.take 319) mX11_init (MF.take 243) 530 [(2, 306)] [] (wr ((326, 5, 116) :: ((326, 4, 104) :: ((326, 3, 103) :: ((326, 2, 105) :: ((326, 1, 101) :: ((326, 0, 104) :: WI))))))) (wr ((306, 28, 326) :: WR)) (MF.take 263) Q) : PW X d (MF.take 319) mX11_init (MF.take 243) 492 [(2, 306)] [] (wr WI) (wr WR) (MF.take 262) Q := by
  refine P_aload_n (n := 0) (q := 493) rfl rfl (by decide +kernel) ?_
  refine P_bipush (n := 6) (q := 495) rfl rfl (by decide +kernel) ?_
  refine T_newc (N := 6) (c := 326) (n := 262) (q := 497) rfl (by decide) (by decide +kernel) (by decide) (by decide) (hI.up (by decide)) (hR.up (by decide)) rfl (by decide +kernel) ?_
  refine P_dup (Nat.ne_of_beq_eq_false rfl) (q := 498) rfl (by decide +kernel) ?_
  refine P_iconst (n := 0) (q := 499) rfl (by decide +kernel) ?_
  refine P_bipush (n := 104) (q := 501) rfl rfl (by decide +kernel) ?_
  refine T_cast rfl (by decide +kernel) (by decide) (by decide +kernel) (q := 502) rfl (by decide +kernel) ?_
  refine P_dup (Nat.ne_of_beq_eq_false rfl) (q := 503) rfl (by decide +kernel) ?_
  refine P_iconst (n := 1) (q := 504) rfl (by decide +kernel) ?_
  refine P_bipush (n := 101) (q := 506) rfl rfl (by decide +kernel) ?_
  refine T_cast rfl (by decide +kernel) (by decide) (by decide +kernel) (q := 507) rfl (by decide +kernel) ?_
  refine P_dup (Nat.ne_of_beq_eq_false rfl) (q := 508) rfl (by decide +kernel) ?_
  refine P_iconst (n := 2) (q := 509) rfl (by decide +kernel) ?_
  refine P_bipush (n := 105) (q := 511) rfl rfl (by decide +kernel) ?_
  refine T_cast rfl (by decide +kernel) (by decide) (by decide +kernel) (q := 512) rfl (by decide +kernel) ?_
  refine P_dup (Nat.ne_of_beq_eq_false rfl) (q := 513) rfl (by decide +kernel) ?_
  refine P_iconst (n := 3) (q := 514) rfl (by decide +kernel) ?_
  refine P_bipush (n := 103) (q := 516) rfl rfl (by decide +kernel) ?_
  refine T_cast rfl (by decide +kernel) (by decide) (by decide +kernel) (q := 517) rfl (by decide +kernel) ?_
  refine P_dup (Nat.ne_of_beq_eq_false rfl) (q := 518) rfl (by decide +kernel) ?_
  refine P_iconst (n := 4) (q := 519) rfl (by decide +kernel) ?_
  refine P_bipush (n := 104) (q := 521) rfl rfl (by decide +kernel) ?_
  refine T_cast rfl (by decide +kernel) (by decide) (by decide +kernel) (q := 522) rfl (by decide +kernel) ?_
  refine P_dup (Nat.ne_of_beq_eq_false rfl) (q := 523) rfl (by decide +kernel) ?_
  refine P_iconst (n := 5) (q := 524) rfl (by decide +kernel) ?_
  refine P_bipush (n := 116) (q := 526) rfl rfl (by decide +kernel) ?_
  refine T_cast rfl (by decide +kernel) (by decide) (by decide +kernel) (q := 527) rfl (by decide +kernel) ?_
  refine T_putR wX11_113 rfl (fun _ => rfl) (by decide +kernel) (q := 530) rfl (by decide +kernel) ?_
  exact k (Lt.one (Lt.one (Lt.one (Lt.one (Lt.one (Lt.one (hI.up (by decide)) (by decide)) (by decide)) (by decide)) (by decide)) (by decide)) (by decide)) (Lt.one (hR.up (by decide)) (by decide))
theorem G_Ma_530 {X : CX} {d : Nat} {WI WR : List (Int × Int × Int)} {Q : PV → PF → PF → Prop} (hd : 1 ≤ d) (hI : Lt WI 327) (hR : Lt WR 327) (k : Lt ((327, 3, 101) :: ((327, 2, 114) :: ((327, 1, 111) :: ((327, 0, 119) :: WI)))) 328 → Lt ((306, 29, 327) :: WR) 328 → PW X d (MF.take 319) mX11_init (MF.take 243) 557 [(2, 306)] [] (wr ((327, 3, 101) :: ((327, 2, 114) :: ((327, 1, 111) :: ((327, 0, 119) :: WI))))) (wr ((306, 29, 327) :: WR)) (MF.take 264) Q) : PW X d (MF.take 319) mX11_init (MF.take 243) 530 [(2, 306)] [] (wr WI) (wr WR) (MF.take 263) Q := by
  refine P_aload_n (n := 0) (q := 531) rfl rfl (by decide +kernel) ?_
  refine P_iconst (n := 4) (q := 532) rfl (by decide +kernel) ?_
  refine T_newc (N := 4) (c := 327) (n := 263) (q := 534) rfl (by decide) (by decide +kernel) (by decide) (by decide) (hI.up (by decide)) (hR.up (by decide)) rfl (by decide +kernel) ?_
  refine P_dup (Nat.ne_of_beq_eq_false rfl) (q := 535) rfl (by decide +kernel) ?_
  refine P_iconst (n := 0) (q := 536) rfl (by decide +kernel) ?_
  refine P_bipush (n := 119) (q := 538) rfl rfl (by decide +kernel) ?_
  refine T_cast rfl (by decide +kernel) (by decide) (by decide +kernel) (q := 539) rfl (by decide +kernel) ?_
  refine P_dup (Nat.ne_of_beq_eq_false rfl) (q := 540) rfl (by decide +kernel) ?_
  refine P_iconst (n := 1) (q := 541) rfl (by decide +kernel) ?_
  refine P_bipush (n := 111) (q := 543) rfl rfl (by decide +kernel) ?_
  refine T_cast rfl (by decide +kernel) (by decide) (by decide +kernel) (q := 544) rfl (by decide +kernel) ?_
  refine P_dup (Nat.ne_of_beq_eq_false rfl) (q := 545) rfl (by decide +kernel) ?_
  refine P_iconst (n := 2) (q := 546) rfl (by decide +kernel) ?_
  refine P_bipush (n := 114) (q := 548) rfl rfl (by decide +kernel) ?_
  refine T_cast rfl (by decide +kernel) (by decide) (by decide +kernel) (q := 549) rfl (by decide +kernel) ?_
  refine P_dup (Nat.ne_of_beq_eq_false rfl) (q := 550) rfl (by decide +kernel) ?_
  refine P_iconst (n := 3) (q := 551) rfl (by decide +kernel) ?_
  refine P_bipush (n := 101) (q := 553) rfl rfl (by decide +kernel) ?_
  refine T_cast rfl (by decide +kernel) (by decide) (by decide +kernel) (q := 554) rfl (by decide +kernel) ?_
  refine T_putR wX11_116 rfl (fun _ => rfl) (by decide +kernel) (q := 557) rfl (by decide +kernel) ?_
  exact k (Lt.one (Lt.one (Lt.one (Lt.one (hI.up (by decide)) (by decide)) (by decide)) (by decide)) (by decide)) (Lt.one (hR.up (by decide)) (by decide))
theorem G_Ma_557 {X : CX} {d : Nat} {WI WR : List (Int × Int × Int)} {Q : PV → PF → PF → Prop} (hd : 1 ≤ d) (hI : Lt WI 328) (hR : Lt WR 328) (k : Lt ((328, 4, 115) :: ((328, 3, 109) :: ((328, 2, 114) :: ((328, 1, 101) :: ((328, 0, 116) :: WI))))) 329 → Lt ((306, 30, 328) :: WR) 329 → PW X d (MF.take 319) mX11_init (MF.take 243) 589 [(2, 306)] [] (wr ((328, 4, 115) :: ((328, 3, 109) :: ((328, 2, 114) :: ((328, 1, 101) :: ((328, 0, 116) :: WI)))))) (wr ((306, 30, 328) :: WR)) (MF.take 265) Q) : PW X d (MF.take 319) mX11_init (MF.take 243) 557 [(2, 306)] [] (wr WI) (wr WR) (MF.take 264) Q := by
  refine P_aload_n (n := 0) (q := 558) rfl rfl (by decide +kernel) ?_
  refine P_iconst (n := 5) (q := 559) rfl (by decide +kernel) ?_
  refine T_newc (N := 5) (c := 328) (n := 264) (q := 561) rfl (by decide) (by decide +kernel) (by decide) (by decide) (hI.up (by decide)) (hR.up (by decide)) rfl (by decide +kernel) ?_
  refine P_dup (Nat.ne_of_beq_eq_false rfl) (q := 562) rfl (by decide +kernel) ?_
  refine P_iconst (n := 0) (q := 563) rfl (by decide +kernel) ?_
  refine P_bipush (n := 116) (q := 565) rfl rfl (by decide +kernel) ?_
  refine T_cast rfl (by decide +kernel) (by decide) (by decide +kernel) (q := 566) rfl (by decide +kernel) ?_
  refine P_dup (Nat.ne_of_beq_eq_false rfl) (q := 567) rfl (by decide +kernel) ?_
  refine P_iconst (n := 1) (q := 568) rfl (by decide +kernel) ?_
  refine P_bipush (n := 101) (q := 570) rfl rfl (by decide +kernel) ?_
  refine T_cast rfl (by decide +kernel) (by decide) (by decide +kernel) (q := 571) rfl (by decide +kernel) ?_
  refine P_dup (Nat.ne_of_beq_eq_false rfl) (q := 572) rfl (by decide +kernel) ?_
  refine P_iconst (n := 2) (q := 573) rfl (by decide +kernel) ?_
  refine P_bipush (n := 114) (q := 575) rfl rfl (by decide +kernel) ?_
  refine T_cast rfl (by decide +kernel) (by decide) (by decide +kernel) (q := 576) rfl (by decide +kernel) ?_
  refine P_dup (Nat.ne_of_beq_eq_false rfl) (q := 577) rfl (by decide +kernel) ?_
  refine P_iconst (n := 3) (q := 578) rfl (by decide +kernel) ?_
  refine P_bipush (n := 109) (q := 580) rfl rfl (by decide +kernel) ?_
  refine T_cast rfl (by decide +kernel) (by decide) (by decide +kernel) (q := 581) rfl (by decide +kernel) ?_
  refine P_dup (Nat.ne_of_beq_eq_false rfl) (q := 582) rfl (by decide +kernel) ?_
  refine P_iconst (n := 4) (q := 583) rfl (by decide +kernel) ?_
  refine P_bipush (n := 115) (q := 585) rfl rfl (by decide +kernel) ?_
  refine T_cast rfl (by decide +kernel) (by decide) (by decide +kernel) (q := 586) rfl (by decide +kernel) ?_
  refine T_putR wX11_119 rfl (fun _ => rfl) (by decide +kernel) (q := 589) rfl (by decide +kernel) ?_
  exact k (Lt.one (Lt.one (Lt.one (Lt.one (Lt.one (hI.up (by decide)) (by decide)) (by decide)) (by decide)) (by decide)) (by decide)) (Lt.one (hR.up (by decide)) (by decide))
theorem G_Ma_589 {X : CX} {d : Nat} {WI WR : List (Int × Int × Int)} {Q : PV → PF → PF → Prop} (hd : 1 ≤ d) (hI : Lt WI 329) (hR : Lt WR 329) (k : Lt ((329, 5, 110) :: ((329, 4, 109) :: ((329, 3, 117) :: ((329, 2, 108) :: ((329, 1, 111) :: ((329, 0, 99) :: WI)))))) 330 → Lt ((306, 31, 329) :: WR) 330 → PW X d (MF.take 319) mX11_init (MF.take 243) 627 [(2, 306)] [] (wr ((329, 5, 110) :: ((329, 4, 109) :: ((329, 3, 117) :: ((329, 2, 108) :: ((329, 1, 111) :: ((329, 0, 99) :: WI))))))) (wr ((306, 31, 329) :: WR)) (MF.take 266) Q) : PW X d (MF.take 319) mX11_init (MF.take 243) 589 [(2, 306)] [] (wr WI) (wr WR) (MF.take 265) Q := by
  refine P_aload_n (n := 0) (q := 590) rfl rfl (by decide +kernel) ?_
  refine P_bipush (n := 6) (q := 592) rfl rfl (by decide +kernel) ?_
  refine T_newc (N := 6) (c := 329) (n := 265) (q := 594) rfl (by decide) (by decide +kernel) (by decide) (by decide) (hI.up (by decide)) (hR.up (by decide)) rfl (by decide +kernel) ?_
  refine P_dup (Nat.ne_of_beq_eq_false rfl) (q := 595) rfl (by decide +kernel) ?_
  refine P_iconst (n := 0) (q := 596) rfl (by decide +kernel) ?_
  refine P_bipush (n := 99) (q := 598) rfl rfl (by decide +kernel) ?_
  refine T_cast rfl (by decide +kernel) (by decide) (by decide +kernel) (q := 599) rfl (by decide +kernel) ?_
  refine P_dup (Nat.ne_of_beq_eq_false rfl) (q := 600) rfl (by decide +kernel) ?_
  refine P_iconst (n := 1) (q := 601) rfl (by decide +kernel) ?_
  refine P_bipush (n := 111) (q := 603) rfl rfl (by decide +kernel) ?_
  refine T_cast rfl (by decide +kernel) (by decide) (by decide +kernel) (q := 604) rfl (by decide +kernel) ?_
  refine P_dup (Nat.ne_of_beq_eq_false rfl) (q := 605) rfl (by decide +kernel) ?_
  refine P_iconst (n := 2) (q := 606) rfl (by decide +kernel) ?_
  refine P_bipush (n := 108) (q := 608) rfl rfl (by decide +kernel) ?_
  refine T_cast rfl (by decide +kernel) (by decide) (by decide +kernel) (q := 609) rfl (by decide +kernel) ?_
  refine P_dup (Nat.ne_of_beq_eq_false rfl) (q := 610) rfl (by decide +kernel) ?_
  refine P_iconst (n := 3) (q := 611) rfl (by decide +kernel) ?_
  refine P_bipush (n := 117) (q := 613) rfl rfl (by decide +kernel) ?_
  refine T_cast rfl (by decide +kernel) (by decide) (by decide +kernel) (q := 614) rfl (by decide +kernel) ?_
  refine P_dup (Nat.ne_of_beq_eq_false rfl) (q := 615) rfl (by decide +kernel) ?_
  refine P_iconst (n := 4) (q := 616) rfl (by decide +kernel) ?_
  refine P_bipush (n := 109) (q := 618) rfl rfl (by decide +kernel) ?_
  refine T_cast rfl (by decide +kernel) (by decide) (by decide +kernel) (q := 619) rfl (by decide +kernel) ?_
  refine P_dup (Nat.ne_of_beq_eq_false rfl) (q := 620) rfl (by decide +kernel) ?_
  refine P_iconst (n := 5) (q := 621) rfl (by decide +kernel) ?_
  refine P_bipush (n := 110) (q := 623) rfl rfl (by decide +kernel) ?_
  refine T_cast rfl (by decide +kernel) (by decide) (by decide +kernel) (q := 624) rfl (by decide +kernel) ?_
  refine T_putR wX11_122 rfl (fun _ => rfl) (by decide +kernel) (q := 627) rfl (by decide +kernel) ?_
  exact k (Lt.one (Lt.one (Lt.one (Lt.one (Lt.one (Lt.one (hI.up (by decide)) (by decide)) (by decide)) (by decide)) (by decide)) (by decide)) (by decide)) (Lt.one (hR.up (by decide)) (by decide))
theorem G_Ma_627 {X : CX} {d : Nat} {WI WR : List (Int × Int × Int)} {Q : PV → PF → PF → Prop} (hd : 1 ≤ d) (hI : Lt WI 330) (hR : Lt WR 330) (k : Lt ((330, 2, 119) :: ((330, 1, 111) :: ((330, 0, 114) :: WI))) 331 → Lt ((306, 32, 330) :: WR) 331 → PW X d (MF.take 319) mX11_init (MF.take 243) 649 [(2, 306)] [] (wr ((330, 2, 119) :: ((330, 1, 111) :: ((330, 0, 114) :: WI)))) (wr ((306, 32, 330) :: WR)) (MF.take 267) Q) : PW X d (MF.take 319) mX11_init (MF.take 243) 627 [(2, 306)] [] (wr WI) (wr WR) (MF.take 266) Q := by
  refine P_aload_n (n := 0) (q := 628) rfl rfl (by decide +kernel) ?_
  refine P_iconst (n := 3) (q := 629) rfl (by decide +kernel) ?_
  refine T_newc (N := 3) (c := 330) (n := 266) (q := 631) rfl (by decide) (by decide +kernel) (by decide) (by decide) (hI.up (by decide)) (hR.up (by decide)) rfl (by decide +kernel) ?_
  refine P_dup (Nat.ne_of_beq_eq_false rfl) (q := 632) rfl (by decide +kernel) ?_
  refine P_iconst (n := 0) (q := 633) rfl (by decide +kernel) ?_
  refine P_bipush (n := 114) (q := 635) rfl rfl (by decide +kernel) ?_
  refine T_cast rfl (by decide +kernel) (by decide) (by decide +kernel) (q := 636) rfl (by decide +kernel) ?_
  refine P_dup (Nat.ne_of_beq_eq_false rfl) (q := 637) rfl (by decide +kernel) ?_
  refine P_iconst (n := 1) (q := 638) rfl (by decide +kernel) ?_
  refine P_bipush (n := 111) (q := 640) rfl rfl (by decide +kernel) ?_
  refine T_cast rfl (by decide +kernel) (by decide) (by decide +kernel) (q := 641) rfl (by decide +kernel) ?_
  refine P_dup (Nat.ne_of_beq_eq_false rfl) (q := 642) rfl (by decide +kernel) ?_
  refine P_iconst (n := 2) (q := 643) rfl (by decide +kernel) ?_
  refine P_bipush (n := 119) (q := 645) rfl rfl (by decide +kernel) ?_
  refine T_cast rfl (by decide +kernel) (by decide) (by decide +kernel) (q := 646) rfl (by decide +kernel) ?_
  refine T_putR wX11_125 rfl (fun _ => rfl) (by decide +kernel) (q := 649) rfl (by decide +kernel) ?_
  exact k (Lt.one (Lt.one (Lt.one (hI.up (by decide)) (by decide)) (by decide)) (by decide)) (Lt.one (hR.up (by decide)) (by decide))
theorem G_Ma_649 {X : CX} {d : Nat} {WI WR : List (Int × Int × Int)} {Q : PV → PF → PF → Prop} (hd : 1 ≤ d) (hI : Lt WI 331) (hR : Lt WR 331) (k : Lt ((331, 3, 115) :: ((331, 2, 116) :: ((331, 1, 101) :: ((331, 0, 103) :: WI)))) 332 → Lt ((306, 33, 331) :: WR) 332 → PW X d (MF.take 319) mX11_init (MF.take 243) 676 [(2, 306)] [] (wr ((331, 3, 115) :: ((331, 2, 116) :: ((331, 1, 101) :: ((331, 0, 103) :: WI))))) (wr ((306, 33, 331) :: WR)) (MF.take 268) Q) : PW X d (MF.take 319) mX11_init (MF.take 243) 649 [(2, 306)] [] (wr WI) (wr WR) (MF.take 267) Q := by
  refine P_aload_n (n := 0) (q := 650) rfl rfl (by decide +kernel) ?_
  refine P_iconst (n := 4) (q := 651) rfl (by decide +kernel) ?_
  refine T_newc (N := 4) (c := 331) (n := 267) (q := 653) rfl (by decide) (by decide +kernel) (by decide) (by decide) (hI.up (by decide)) (hR.up (by decide)) rfl (by decide +kernel) ?_
  refine P_dup (Nat.ne_of_beq_eq_false rfl) (q := 654) rfl (by decide +kernel) ?_
  refine P_iconst (n := 0) (q := 655) rfl (by decide +kernel) ?_
  refine P_bipush (n := 103) (q := 657) rfl rfl (by decide +kernel) ?_
  refine T_cast rfl (by decide +kernel) (by decide) (by decide +kernel) (q := 658) rfl (by decide +kernel) ?_
  refine P_dup (Nat.ne_of_beq_eq_false rfl) (q := 659) rfl (by decide +kernel) ?_
  refine P_iconst (n := 1) (q := 660) rfl (by decide +kernel) ?_
  refine P_bipush (n := 101) (q := 662) rfl rfl (by decide +kernel) ?_
  refine T_cast rfl (by decide +kernel) (by decide) (by decide +kernel) (q := 663) rfl (by decide +kernel) ?_
  refine P_dup (Nat.ne_of_beq_eq_false rfl) (q := 664) rfl (by decide +kernel) ?_
  refine P_iconst (n := 2) (q := 665) rfl (by decide +kernel) ?_
  refine P_bipush (n := 116) (q := 667) rfl rfl (by decide +kernel) ?_
  refine T_cast rfl (by decide +kernel) (by decide) (by decide +kernel) (q := 668) rfl (by decide +kernel) ?_
  refine P_dup (Nat.ne_of_beq_eq_false rfl) (q := 669) rfl (by decide +kernel) ?_
  refine P_iconst (n := 3) (q := 670) rfl (by decide +kernel) ?_
  refine P_bipush (n := 115) (q := 672) rfl rfl (by decide +kernel) ?_
  refine T_cast rfl (by decide +kernel) (by decide) (by decide +kernel) (q := 673) rfl (by decide +kernel) ?_
  refine T_putR wX11_128 rfl (fun _ => rfl) (by decide +kernel) (q := 676) rfl (by decide +kernel) ?_
  exact k (Lt.one (Lt.one (Lt.one (Lt.one (hI.up (by decide)) (by decide)) (by decide)) (by decide)) (by decide)) (Lt.one (hR.up (by decide)) (by decide))
theorem G_Ma_676 {X : CX} {d : Nat} {WI WR : List (Int × Int × Int)} {Q : PV → PF → PF → Prop} (hd : 1 ≤ d) (hI : Lt WI 332) (hR : Lt WR 332) (k : Lt ((332, 5, 114) :: ((332, 4, 101) :: ((332, 3, 98) :: ((332, 2, 109) :: ((332, 1, 117) :: ((332, 0, 110) :: WI)))))) 333 → Lt ((306, 34, 332) :: WR) 333 → PW X d (MF.take 319) mX11_init (MF.take 243) 714 [(2, 306)] [] (wr ((332, 5, 114) :: ((332, 4, 101) :: ((332, 3, 98) :: ((332, 2, 109) :: ((332, 1, 117) :: ((332, 0, 110) :: WI))))))) (wr ((306, 34, 332) :: WR)) (MF.take 269) Q) : PW X d (MF.take 319) mX11_init (MF.take 243) 676 [(2, 306)] [] (wr WI) (wr WR) (MF.take 268) Q := by
  refine P_aload_n (n := 0) (q := 677) rfl rfl (by decide +kernel) ?_
  refine P_bipush (n := 6) (q := 679) rfl rfl (by decide +kernel) ?_
  refine T_newc (N := 6) (c := 332) (n := 268) (q := 681) rfl (by decide) (by decide +kernel) (by decide) (by decide) (hI.up (by decide)) (hR.up (by decide)) rfl (by decide +kernel) ?_
  refine P_dup (Nat.ne_of_beq_eq_false rfl) (q := 682) rfl (by decide +kernel) ?_
  refine P_iconst (n := 0) (q := 683) rfl (by decide +kernel) ?_
  refine P_bipush (n := 110) (q := 685) rfl rfl (by decide +kernel) ?_
  refine T_cast rfl (by decide +kernel) (by decide) (by decide +kernel) (q := 686) rfl (by decide +kernel) ?_
  refine P_dup (Nat.ne_of_beq_eq_false rfl) (q := 687) rfl (by decide +kernel) ?_
  refine P_iconst (n := 1) (q := 688) rfl (by decide +kernel) ?_
  refine P_bipush (n := 117) (q := 690) rfl rfl (by decide +kernel) ?_
  refine T_cast rfl (by decide +kernel) (by decide) (by decide +kernel) (q := 691) rfl (by decide +kernel) ?_
  refine P_dup (Nat.ne_of_beq_eq_false rfl) (q := 692) rfl (by decide +kernel) ?_
  refine P_iconst (n := 2) (q := 693) rfl (by decide +kernel) ?_
  refine P_bipush (n := 109) (q := 695) rfl rfl (by decide +kernel) ?_
  refine T_cast rfl (by decide +kernel) (by decide) (by decide +kernel) (q := 696) rfl (by decide +kernel) ?_
  refine P_dup (Nat.ne_of_beq_eq_false rfl) (q := 697) rfl (by decide +kernel) ?_
  refine P_iconst (n := 3) (q := 698) rfl (by decide +kernel) ?_
  refine P_bipush (n := 98) (q := 700) rfl rfl (by decide +kernel) ?_
  refine T_cast rfl (by decide +kernel) (by decide) (by decide +kernel) (q := 701) rfl (by decide +kernel) ?_
  refine P_dup (Nat.ne_of_beq_eq_false rfl) (q := 702) rfl (by decide +kernel) ?_
  refine P_iconst (n := 4) (q := 703) rfl (by decide +kernel) ?_
  refine P_bipush (n := 101) (q := 705) rfl rfl (by decide +kernel) ?_
  refine T_cast rfl (by decide +kernel) (by decide) (by decide +kernel) (q := 706) rfl (by decide +kernel) ?_
  refine P_dup (Nat.ne_of_beq_eq_false rfl) (q := 707) rfl (by decide +kernel) ?_
  refine P_iconst (n := 5) (q := 708) rfl (by decide +kernel) ?_
  refine P_bipush (n := 114) (q := 710) rfl rfl (by decide +kernel) ?_
  refine T_cast rfl (by decide +kernel) (by decide) (by decide +kernel) (q := 711) rfl (by decide +kernel) ?_
  refine T_putR wX11_131 rfl (fun _ => rfl) (by decide +kernel) (q := 714) rfl (by decide +kernel) ?_
  exact k (Lt.one (Lt.one (Lt.one (Lt.one (Lt.one (Lt.one (hI.up (by decide)) (by decide)) (by decide)) (by decide)) (by decide)) (by decide)) (by decide)) (Lt.one (hR.up (by decide)) (by decide))
theorem G_Ma_714 {X : CX} {d : Nat} {WI WR : List (Int × Int × Int)} {Q : PV → PF → PF → Prop} (hd : 1 ≤ d) (hI : Lt WI 333) (hR : Lt WR 333) (k : Lt ((333, 1, 114) :: ((333, 0, 111) :: WI)) 334 → Lt ((306, 35, 333) :: WR) 334 → PW X d (MF.take 319) mX11_init (MF.take 243) 731 [(2, 306)] [] (wr ((333, 1, 114) :: ((333, 0, 111) :: WI))) (wr ((306, 35, 333) :: WR)) (MF.take 270) Q) : PW X d (MF.take 319) mX11_init (MF.take 243) 714 [(2, 306)] [] (wr WI) (wr WR) (MF.take 269) Q := by
  refine P_aload_n (n := 0) (q := 715) rfl rfl (by decide +kernel) ?_
  refine P_iconst (n := 2) (q := 716) rfl (by decide +kernel) ?_
  refine T_newc (N := 2) (c := 333) (n := 269) (q := 718) rfl (by decide) (by decide +kernel) (by decide) (by decide) (hI.up (by decide)) (hR.up (by decide)) rfl (by decide +kernel) ?_
  refine P_dup (Nat.ne_of_beq_eq_false rfl) (q := 719) rfl (by decide +kernel) ?_
  refine P_iconst (n := 0) (q := 720) rfl (by decide +kernel) ?_
  refine P_bipush (n := 111) (q := 722) rfl rfl (by decide +kernel) ?_
  refine T_cast rfl (by decide +kernel) (by decide) (by decide +kernel) (q := 723) rfl (by decide +kernel) ?_
  refine P_dup (Nat.ne_of_beq_eq_false rfl) (q := 724) rfl (by decide +kernel) ?_
  refine P_iconst (n := 1) (q := 725) rfl (by decide +kernel) ?_
  refine P_bipush (n := 114) (q := 727) rfl rfl (by decide +kernel) ?_
  refine T_cast rfl (by decide +kernel) (by decide) (by decide +kernel) (q := 728) rfl (by decide +kernel) ?_
  refine T_putR wX11_134 rfl (fun _ => rfl) (by decide +kernel) (q := 731) rfl (by decide +kernel) ?_
  exact k (Lt.one (Lt.one (hI.up (by decide)) (by decide)) (by decide)) (Lt.one (hR.up (by decide)) (by decide))
theorem G_Ma_731 {X : CX} {d : Nat} {WI WR : List (Int × Int × Int)} {Q : PV → PF → PF → Prop} (hd : 1 ≤ d) (hI : Lt WI 334) (hR : Lt WR 334) (k : Lt ((334, 2, 100) :: ((334, 1, 110) :: ((334, 0, 97) :: WI))) 335 → Lt ((306, 36, 334) :: WR) 335 → PW X d (MF.take 319) mX11_init (MF.take 243) 753 [(2, 306)] [] (wr ((334, 2, 100) :: ((334, 1, 110) :: ((334, 0, 97) :: WI)))) (wr ((306, 36, 334) :: WR)) (MF.take 271) Q) : PW X d (MF.take 319) mX11_init (MF.take 243) 731 [(2, 306)] [] (wr WI) (wr WR) (MF.take 270) Q := by
  refine P_aload_n (n := 0) (q := 732) rfl rfl (by decide +kernel) ?_
  refine P_iconst (n := 3) (q := 733) rfl (by decide +kernel) ?_
  refine T_newc (N := 3) (c := 334) (n := 270) (q := 735) rfl (by decide) (by decide +kernel) (by decide) (by decide) (hI.up (by decide)) (hR.up (by decide)) rfl (by decide +kernel) ?_
  refine P_dup (Nat.ne_of_beq_eq_false rfl) (q := 736) rfl (by decide +kernel) ?_
  refine P_iconst (n := 0) (q := 737) rfl (by decide +kernel) ?_
  refine P_bipush (n := 97) (q := 739) rfl rfl (by decide +kernel) ?_
  refine T_cast rfl (by decide +kernel) (by decide) (by decide +kernel) (q := 740) rfl (by decide +kernel) ?_
  refine P_dup (Nat.ne_of_beq_eq_false rfl) (q := 741) rfl (by decide +kernel) ?_
  refine P_iconst (n := 1) (q := 742) rfl (by decide +kernel) ?_
  refine P_bipush (n := 110) (q := 744) rfl rfl (by decide +kernel) ?_
  refine T_cast rfl (by decide +kernel) (by decide) (by decide +kernel) (q := 745) rfl (by decide +kernel) ?_
  refine P_dup (Nat.ne_of_beq_eq_false rfl) (q := 746) rfl (by decide +kernel) ?_
  refine P_iconst (n := 2) (q := 747) rfl (by decide +kernel) ?_
  refine P_bipush (n := 100) (q := 749) rfl rfl (by decide +kernel) ?_
  refine T_cast rfl (by decide +kernel) (by decide) (by decide +kernel) (q := 750) rfl (by decide +kernel) ?_
  refine T_putR wX11_137 rfl (fun _ => rfl) (by decide +kernel) (q := 753) rfl (by decide +kernel) ?_
  exact k (Lt.one (Lt.one (Lt.one (hI.up (by decide)) (by decide)) (by decide)) (by decide)) (Lt.one (hR.up (by decide)) (by decide))
theorem G_Ma_753 {X : CX} {d : Nat} {WI WR : List (Int × Int × Int)} {Q : PV → PF → PF → Prop} (hd : 1 ≤ d) (hI : Lt WI 335) (hR : Lt WR 335) (k : Lt ((335, 2, 116) :: ((335, 1, 111) :: ((335, 0, 110) :: WI))) 336 → Lt ((306, 37, 335) :: WR) 336 → PW X d (MF.take 319) mX11_init (MF.take 243) 775 [(2, 306)] [] (wr ((335, 2, 116) :: ((335, 1, 111) :: ((335, 0, 110) :: WI)))) (wr ((306, 37, 335) :: WR)) (MF.take 272) Q) : PW X d (MF.take 319) mX11_init (MF.take 243) 753 [(2, 306)] [] (wr WI) (wr WR) (MF.take 271) Q := by
  refine P_aload_n (n := 0) (q := 754) rfl rfl (by decide +kernel) ?_
  refine P_iconst (n := 3) (q := 755) rfl (by decide +kernel) ?_
  refine T_newc (N := 3) (c := 335) (n := 271) (q := 757) rfl (by decide) (by decide +kernel) (by decide) (by decide) (hI.up (by decide)) (hR.up (by decide)) rfl (by decide +kernel) ?_
  refine P_dup (Nat.ne_of_beq_eq_false rfl) (q := 758) rfl (by decide +kernel) ?_
  refine P_iconst (n := 0) (q := 759) rfl (by decide +kernel) ?_
  refine P_bipush (n := 110) (q := 761) rfl rfl (by decide +kernel) ?_
  refine T_cast rfl (by decide +kernel) (by decide) (by decide +kernel) (q := 762) rfl (by decide +kernel) ?_
  refine P_dup (Nat.ne_of_beq_eq_false rfl) (q := 763) rfl (by decide +kernel) ?_
  refine P_iconst (n := 1) (q := 764) rfl (by decide +kernel) ?_
  refine P_bipush (n := 111) (q := 766) rfl rfl (by decide +kernel) ?_
  refine T_cast rfl (by decide +kernel) (by decide) (by decide +kernel) (q := 767) rfl (by decide +kernel) ?_
  refine P_dup (Nat.ne_of_beq_eq_false rfl) (q := 768) rfl (by decide +kernel) ?_
  refine P_iconst (n := 2) (q := 769) rfl (by decide +kernel) ?_
  refine P_bipush (n := 116) (q := 771) rfl rfl (by decide +kernel) ?_
  refine T_cast rfl (by decide +kernel) (by decide) (by decide +kernel) (q := 772) rfl (by decide +kernel) ?_
  refine T_putR wX11_140 rfl (fun _ => rfl) (by decide +kernel) (q := 775) rfl (by decide +kernel) ?_
  exact k (Lt.one (Lt.one (Lt.one (hI.up (by decide)) (by decide)) (by decide)) (by decide)) (Lt.one (hR.up (by decide)) (by decide))
theorem G_Ma_775 {X : CX} {d : Nat} {WI WR : List (Int × Int × Int)} {Q : PV → PF → PF → Prop} (hd : 1 ≤ d) (hI : Lt WI 336) (hR : Lt WR 336) (k : Lt ((336, 2, 108) :: ((336, 1, 108) :: ((336, 0, 97) :: WI))) 337 → Lt ((306, 38, 336) :: WR) 337 → PW X d (MF.take 319) mX11_init (MF.take 243) 797 [(2, 306)] [] (wr ((336, 2, 108) :: ((336, 1, 108) :: ((336, 0, 97) :: WI)))) (wr ((306, 38, 336) :: WR)) (MF.take 273) Q) : PW X d (MF.take 319) mX11_init (MF.take 243) 775 [(2, 306)] [] (wr WI) (wr WR) (MF.take 272) Q := by
  refine P_aload_n (n := 0) (q := 776) rfl rfl (by decide +kernel) ?_
  refine P_iconst (n := 3) (q := 777) rfl (by decide +kernel) ?_
  refine T_newc (N := 3) (c := 336) (n := 272) (q := 779) rfl (by decide) (by decide +kernel) (by decide) (by decide) (hI.up (by decide)) (hR.up (by decide)) rfl (by decide +kernel) ?_
  refine P_dup (Nat.ne_of_beq_eq_false rfl) (q := 780) rfl (by decide +kernel) ?_
  refine P_iconst (n := 0) (q := 781) rfl (by decide +kernel) ?_
  refine P_bipush (n := 97) (q := 783) rfl rfl (by decide +kernel) ?_
  refine T_cast rfl (by decide +kernel) (by decide) (by decide +kernel) (q := 784) rfl (by decide +kernel) ?_
  refine P_dup (Nat.ne_of_beq_eq_false rfl) (q := 785) rfl (by decide +kernel) ?_
  refine P_iconst (n := 1) (q := 786) rfl (by decide +kernel) ?_
  refine P_bipush (n := 108) (q := 788) rfl rfl (by decide +kernel) ?_
  refine T_cast rfl (by decide +kernel) (by decide) (by decide +kernel) (q := 789) rfl (by decide +kernel) ?_
  refine P_dup (Nat.ne_of_beq_eq_false rfl) (q := 790) rfl (by decide +kernel) ?_
  refine P_iconst (n := 2) (q := 791) rfl (by decide +kernel) ?_
  refine P_bipush (n := 108) (q := 793) rfl rfl (by decide +kernel) ?_
  refine T_cast rfl (by decide +kernel) (by decide) (by decide +kernel) (q := 794) rfl (by decide +kernel) ?_
  refine T_putR wX11_143 rfl (fun _ => rfl) (by decide +kernel) (q := 797) rfl (by decide +kernel) ?_
  exact k (Lt.one (Lt.one (Lt.one (hI.up (by decide)) (by decide)) (by decide)) (by decide)) (Lt.one (hR.up (by decide)) (by decide))
theorem G_Ma_797 {X : CX} {d : Nat} {WI WR : List (Int × Int × Int)} {Q : PV → PF → PF → Prop} (hd : 1 ≤ d) (hI : Lt WI 337) (hR : Lt WR 337) (k : Lt ((337, 2, 110) :: ((337, 1, 105) :: ((337, 0, 109) :: WI))) 338 → Lt ((306, 39, 337) :: WR) 338 → PW X d (MF.take 319) mX11_init (MF.take 243) 819 [(2, 306)] [] (wr ((337, 2, 110) :: ((337, 1, 105) :: ((337, 0, 109) :: WI)))) (wr ((306, 39, 337) :: WR)) (MF.take 274) Q) : PW X d (MF.take 319) mX11_init (MF.take 243) 797 [(2, 306)] [] (wr WI) (wr WR) (MF.take 273) Q := by
  refine P_aload_n (n := 0) (q := 798) rfl rfl (by decide +kernel) ?_
  refine P_iconst (n := 3) (q := 799) rfl (by decide +kernel) ?_
  refine T_newc (N := 3) (c := 337) (n := 273) (q := 801) rfl (by decide) (by decide +kernel) (by decide) (by decide) (hI.up (by decide)) (hR.up (by decide)) rfl (by decide +kernel) ?_
  refine P_dup (Nat.ne_of_beq_eq_false rfl) (q := 802) rfl (by decide +kernel) ?_
  refine P_iconst (n := 0) (q := 803) rfl (by decide +kernel) ?_
  refine P_bipush (n := 109) (q := 805) rfl rfl (by decide +kernel) ?_
  refine T_cast rfl (by decide +kernel) (by decide) (by decide +kernel) (q := 806) rfl (by decide +kernel) ?_
  refine P_dup (Nat.ne_of_beq_eq_false rfl) (q := 807) rfl (by decide +kernel) ?_
  refine P_iconst (n := 1) (q := 808) rfl (by decide +kernel) ?_
  refine P_bipush (n := 105) (q := 810) rfl rfl (by decide +kernel) ?_
  refine T_cast rfl (by decide +kernel) (by decide) (by decide +kernel) (q := 811) rfl (by decide +kernel) ?_
  refine P_dup (Nat.ne_of_beq_eq_false rfl) (q := 812) rfl (by decide +kernel) ?_
  refine P_iconst (n := 2) (q := 813) rfl (by decide +kernel) ?_
  refine P_bipush (n := 110) (q := 815) rfl rfl (by decide +kernel) ?_
  refine T_cast rfl (by decide +kernel) (by decide) (by decide +kernel) (q := 816) rfl (by decide +kernel) ?_
  refine T_putR wX11_146 rfl (fun _ => rfl) (by decide +kernel) (q := 819) rfl (by decide +kernel) ?_
  exact k (Lt.one (Lt.one (Lt.one (hI.up (by decide)) (by decide)) (by decide)) (by decide)) (Lt.one (hR.up (by decide)) (by decide))
theorem G_Ma_819 {X : CX} {d : Nat} {WI WR : List (Int × Int × Int)} {Q : PV → PF → PF → Prop} (hd : 1 ≤ d) (hI : Lt WI 338) (hR : Lt WR 338) (k : Lt ((338, 2, 120) :: ((338, 1, 97) :: ((338, 0, 109) :: WI))) 339 → Lt ((306, 40, 338) :: WR) 339 → PW X d (MF.take 319) mX11_init (MF.take 243) 841 [(2, 306)] [] (wr ((338, 2, 120) :: ((338, 1, 97) :: ((338, 0, 109) :: WI)))) (wr ((306, 40, 338) :: WR)) (MF.take 275) Q) : PW X d (MF.take 319) mX11_init (MF.take 243) 819 [(2, 306)] [] (wr WI) (wr WR) (MF.take 274) Q := by
  refine P_aload_n (n := 0) (q := 820) rfl rfl (by decide +kernel) ?_
  refine P_iconst (n := 3) (q := 821) rfl (by decide +kernel) ?_
  refine T_newc (N := 3) (c := 338) (n := 274) (q := 823) rfl (by decide) (by decide +kernel) (by decide) (by decide) (hI.up (by decide)) (hR.up (by decide)) rfl (by decide +kernel) ?_
  refine P_dup (Nat.ne_of_beq_eq_false rfl) (q := 824) rfl (by decide +kernel) ?_
  refine P_iconst (n := 0) (q := 825) rfl (by decide +kernel) ?_
  refine P_bipush (n := 109) (q := 827) rfl rfl (by decide +kernel) ?_
  refine T_cast rfl (by decide +kernel) (by decide) (by decide +kernel) (q := 828) rfl (by decide +kernel) ?_
  refine P_dup (Nat.ne_of_beq_eq_false rfl) (q := 829) rfl (by decide +kernel) ?_
  refine P_iconst (n := 1) (q := 830) rfl (by decide +kernel) ?_
  refine P_bipush (n := 97) (q := 832) rfl rfl (by decide +kernel) ?_
  refine T_cast rfl (by decide +kernel) (by decide) (by decide +kernel) (q := 833) rfl (by decide +kernel) ?_
  refine P_dup (Nat.ne_of_beq_eq_false rfl) (q := 834) rfl (by decide +kernel) ?_
  refine P_iconst (n := 2) (q := 835) rfl (by decide +kernel) ?_
  refine P_bipush (n := 120) (q := 837) rfl rfl (by decide +kernel) ?_
  refine T_cast rfl (by decide +kernel) (by decide) (by decide +kernel) (q := 838) rfl (by decide +kernel) ?_
  refine T_putR wX11_149 rfl (fun _ => rfl) (by decide +kernel) (q := 841) rfl (by decide +kernel) ?_
  exact k (Lt.one (Lt.one (Lt.one (hI.up (by decide)) (by decide)) (by decide)) (by decide)) (Lt.one (hR.up (by decide)) (by decide))
theorem G_Ma_841 {X : CX} {d : Nat} {WI WR : List (Int × Int × Int)} {Q : PV → PF → PF → Prop} (hd : 1 ≤ d) (hI : Lt WI 339) (hR : Lt WR 339) (k : Lt WI 340 → Lt ((306, 42, 339) :: WR) 340 → PW X d (MF.take 319) mX11_init (MF.take 243) 849 [(2, 306)] [] (wr WI) (wr ((306, 42, 339) :: WR)) (MF.take 276) Q) : PW X d (MF.take 319) mX11_init (MF.take 243) 841 [(2, 306)] [] (wr WI) (wr WR) (MF.take 275) Q := by
  refine P_aload_n (n := 0) (q := 842) rfl rfl (by decide +kernel) ?_
  refine P_bipush (n := 6) (q := 844) rfl rfl (by decide +kernel) ?_
  refine T_newi (N := 6) (c := 339) (n := 275) (q := 846) rfl (by decide) (by decide +kernel) (by decide) (by decide) (hI.up (by decide)) (hR.up (by decide)) rfl (by decide +kernel) ?_
  refine T_putR wX11_166 rfl (fun _ => rfl) (by decide +kernel) (q := 849) rfl (by decide +kernel) ?_
  exact k (hI.up (by decide)) (Lt.one (hR.up (by decide)) (by decide))
theorem G_Ma_849 {X : CX} {d : Nat} {WI WR : List (Int × Int × Int)} {Q : PV → PF → PF → Prop} (hd : 1 ≤ d) (hI : Lt WI 340) (hR : Lt WR 340) (k : Lt WI 341 → Lt ((306, 43, 340) :: WR) 341 → PW X d (MF.take 319) mX11_init (MF.take 243) 857 [(2, 306)] [] (wr WI) (wr ((306, 43, 340) :: WR)) (MF.take 277) Q) : PW X d (MF.take 319) mX11_init (MF.take 243) 849 [(2, 306)] [] (wr WI) (wr WR) (MF.take 276) Q := by
  refine P_aload_n (n := 0) (q := 850) rfl rfl (by decide +kernel) ?_
  refine P_bipush (n := 24) (q := 852) rfl rfl (by decide +kernel) ?_
  refine T_newl (N := 24) (c := 340) (n := 276) (q := 854) rfl (by decide) (by decide +kernel) (by decide) (by decide) (hI.up (by decide)) (hR.up (by decide)) rfl (by decide +kernel) ?_
  refine T_putR wX11_169 rfl (fun _ => rfl) (by decide +kernel) (q := 857) rfl (by decide +kernel) ?_
  exact k (hI.up (by decide)) (Lt.one (hR.up (by decide)) (by decide))
theorem G_Ma_857 {X : CX} {d : Nat} {WI WR : List (Int × Int × Int)} {Q : PV → PF → PF → Prop} (hd : 1 ≤ d) (hI : Lt WI 341) (hR : Lt WR 341) (k : Lt WI 342 → Lt ((306, 44, 341) :: WR) 342 → PW X d (MF.take 319) mX11_init (MF.take 243) 865 [(2, 306)] [] (wr WI) (wr ((306, 44, 341) :: WR)) (MF.take 278) Q) : PW X d (MF.take 319) mX11_init (MF.take 243) 857 [(2, 306)] [] (wr WI) (wr WR) (MF.take 277) Q := by
  refine P_aload_n (n := 0) (q := 858) rfl rfl (by decide +kernel) ?_
  refine P_bipush (n := 10) (q := 860) rfl rfl (by decide +kernel) ?_
  refine T_newi (N := 10) (c := 341) (n := 277) (q := 862) rfl (by decide) (by decide +kernel) (by decide) (by decide) (hI.up (by decide)) (hR.up (by decide)) rfl (by decide +kernel) ?_
  refine T_putR wX11_185 rfl (fun _ => rfl) (by decide +kernel) (q := 865) rfl (by decide +kernel) ?_
  exact k (hI.up (by decide)) (Lt.one (hR.up (by decide)) (by decide))
theorem G_Ma_865 {X : CX} {d : Nat} {WI WR : List (Int × Int × Int)} {Q : PV → PF → PF → Prop} (hd : 1 ≤ d) (hI : Lt WI 342) (hR : Lt WR 342) (k : Lt WI 343 → Lt ((306, 45, 342) :: WR) 343 → PW X d (MF.take 319) mX11_init (MF.take 243) 873 [(2, 306)] [] (wr WI) (wr ((306, 45, 342) :: WR)) (MF.take 279) Q) : PW X d (MF.take 319) mX11_init (MF.take 243) 865 [(2, 306)] [] (wr WI) (wr WR) (MF.take 278) Q := by
  refine P_aload_n (n := 0) (q := 866) rfl rfl (by decide +kernel) ?_
  refine P_bipush (n := 48) (q := 868) rfl rfl (by decide +kernel) ?_
  refine T_newi (N := 48) (c := 342) (n := 278) (q := 870) rfl (by decide) (by decide +kernel) (by decide) (by decide) (hI.up (by decide)) (hR.up (by decide)) rfl (by decide +kernel) ?_
  refine T_putR wX11_226 rfl (fun _ => rfl) (by decide +kernel) (q := 873) rfl (by decide +kernel) ?_
  exact k (hI.up (by decide)) (Lt.one (hR.up (by decide)) (by decide))
theorem G_Ma_873 {X : CX} {d : Nat} {WI WR : List (Int × Int × Int)} {Q : PV → PF → PF → Prop} (hd : 1 ≤ d) (hI : Lt WI 343) (hR : Lt WR 343) (k : Lt WI 344 → Lt ((306, 46, 343) :: WR) 344 → PW X d (MF.take 319) mX11_init (MF.take 243) 881 [(2, 306)] [] (wr WI) (wr ((306, 46, 343) :: WR)) (MF.take 280) Q) : PW X d (MF.take 319) mX11_init (MF.take 243) 873 [(2, 306)] [] (wr WI) (wr WR) (MF.take 279) Q := by
  refine P_aload_n (n := 0) (q := 874) rfl rfl (by decide +kernel) ?_
  refine P_bipush (n := 24) (q := 876) rfl rfl (by decide +kernel) ?_
  refine T_newi (N := 24) (c := 343) (n := 279) (q := 878) rfl (by decide) (by decide +kernel) (by decide) (by decide) (hI.up (by decide)) (hR.up (by decide)) rfl (by decide +kernel) ?_
  refine T_putR wX11_199 rfl (fun _ => rfl) (by decide +kernel) (q := 881) rfl (by decide +kernel) ?_
  exact k (hI.up (by decide)) (Lt.one (hR.up (by decide)) (by decide))
theorem G_Ma_881 {X : CX} {d : Nat} {WI WR : List (Int × Int × Int)} {Q : PV → PF → PF → Prop} (hd : 1 ≤ d) (hI : Lt WI 344) (hR : Lt WR 344) (k : Lt WI 345 → Lt ((306, 47, 344) :: WR) 345 → PW X d (MF.take 319) mX11_init (MF.take 243) 889 [(2, 306)] [] (wr WI) (wr ((306, 47, 344) :: WR)) (MF.take 281) Q) : PW X d (MF.take 319) mX11_init (MF.take 243) 881 [(2, 306)] [] (wr WI) (wr WR) (MF.take 280) Q := by
  refine P_aload_n (n := 0) (q := 882) rfl rfl (by decide +kernel) ?_
  refine P_bipush (n := 40) (q := 884) rfl rfl (by decide +kernel) ?_
  refine T_newi (N := 40) (c := 344) (n := 280) (q := 886) rfl (by decide) (by decide +kernel) (by decide) (by decide) (hI.up (by decide)) (hR.up (by decide)) rfl (by decide +kernel) ?_
  refine T_putR wX11_196 rfl (fun _ => rfl) (by decide +kernel) (q := 889) rfl (by decide +kernel) ?_
  exact k (hI.up (by decide)) (Lt.one (hR.up (by decide)) (by decide))
theorem G_Ma_889 {X : CX} {d : Nat} {WI WR : List (Int × Int × Int)} {Q : PV → PF → PF → Prop} (hd : 1 ≤ d) (hI : Lt WI 345) (hR : Lt WR 345) (k : Lt ((345, 3, (-1)) :: ((345, 2, (-1)) :: ((345, 1, (-1)) :: ((345, 0, (-1)) :: WI)))) 346 → Lt ((306, 50, 345) :: WR) 346 → PW X d (MF.take 319) mX11_init (MF.take 243) 912 [(2, 306)] [] (wr ((345, 3, (-1)) :: ((345, 2, (-1)) :: ((345, 1, (-1)) :: ((345, 0, (-1)) :: WI))))) (wr ((306, 50, 345) :: WR)) (MF.take 282) Q) : PW X d (MF.take 319) mX11_init (MF.take 243) 889 [(2, 306)] [] (wr WI) (wr WR) (MF.take 281) Q := by
  refine P_aload_n (n := 0) (q := 890) rfl rfl (by decide +kernel) ?_
  refine P_iconst (n := 4) (q := 891) rfl (by decide +kernel) ?_
  refine T_newi (N := 4) (c := 345) (n := 281) (q := 893) rfl (by decide) (by decide +kernel) (by decide) (by decide) (hI.up (by decide)) (hR.up (by decide)) rfl (by decide +kernel) ?_
  refine P_dup (Nat.ne_of_beq_eq_false rfl) (q := 894) rfl (by decide +kernel) ?_
  refine P_iconst (n := 0) (q := 895) rfl (by decide +kernel) ?_
  refine P_iconst (n := -1) (q := 896) rfl (by decide +kernel) ?_
  refine T_iast (by decide +kernel) (by decide) (by decide +kernel) (q := 897) rfl (by decide +kernel) ?_
  refine P_dup (Nat.ne_of_beq_eq_false rfl) (q := 898) rfl (by decide +kernel) ?_
  refine P_iconst (n := 1) (q := 899) rfl (by decide +kernel) ?_
  refine P_iconst (n := -1) (q := 900) rfl (by decide +kernel) ?_
  refine T_iast (by decide +kernel) (by decide) (by decide +kernel) (q := 901) rfl (by decide +kernel) ?_
  refine P_dup (Nat.ne_of_beq_eq_false rfl) (q := 902) rfl (by decide +kernel) ?_
  refine P_iconst (n := 2) (q := 903) rfl (by decide +kernel) ?_
  refine P_iconst (n := -1) (q := 904) rfl (by decide +kernel) ?_
  refine T_iast (by decide +kernel) (by decide) (by decide +kernel) (q := 905) rfl (by decide +kernel) ?_
  refine P_dup (Nat.ne_of_beq_eq_false rfl) (q := 906) rfl (by decide +kernel) ?_
  refine P_iconst (n := 3) (q := 907) rfl (by decide +kernel) ?_
  refine P_iconst (n := -1) (q := 908) rfl (by decide +kernel) ?_
  refine T_iast (by decide +kernel) (by decide) (by decide +kernel) (q := 909) rfl (by decide +kernel) ?_
  refine T_putR wX11_229 rfl (fun _ => rfl) (by decide +kernel) (q := 912) rfl (by decide +kernel) ?_
  exact k (Lt.one (Lt.one (Lt.one (Lt.one (hI.up (by decide)) (by decide)) (by decide)) (by decide)) (by decide)) (Lt.one (hR.up (by decide)) (by decide))
theorem G_Ma_912 {X : CX} {d : Nat} {WI WR : List (Int × Int × Int)} {Q : PV → PF → PF → Prop} (hd : 1 ≤ d) (hI : Lt WI 346) (hR : Lt WR 346) (k : Lt WI 347 → Lt ((306, 51, 346) :: WR) 347 → PW X d (MF.take 319) mX11_init (MF.take 243) 919 [(2, 306)] [] (wr WI) (wr ((306, 51, 346) :: WR)) (MF.take 283) Q) : PW X d (MF.take 319) mX11_init (MF.take 243) 912 [(2, 306)] [] (wr WI) (wr WR) (MF.take 282) Q := by
  refine P_aload_n (n := 0) (q := 913) rfl rfl (by decide +kernel) ?_
  refine P_iconst (n := 4) (q := 914) rfl (by decide +kernel) ?_
  refine T_newi (N := 4) (c := 346) (n := 282) (q := 916) rfl (by decide) (by decide +kernel) (by decide) (by decide) (hI.up (by decide)) (hR.up (by decide)) rfl (by decide +kernel) ?_
  refine T_putR wX11_260 rfl (fun _ => rfl) (by decide +kernel) (q := 919) rfl (by decide +kernel) ?_
  exact k (hI.up (by decide)) (Lt.one (hR.up (by decide)) (by decide))
theorem G_Ma_919 {X : CX} {d : Nat} {WI WR : List (Int × Int × Int)} {Q : PV → PF → PF → Prop} (hd : 1 ≤ d) (hI : Lt WI 347) (hR : Lt WR 347) (k : Lt WI 348 → Lt ((306, 52, 347) :: WR) 348 → PW X d (MF.take 319) mX11_init (MF.take 243) 928 [(2, 306)] [] (wr WI) (wr ((306, 52, 347) :: WR)) (MF.take 284) Q) : PW X d (MF.take 319) mX11_init (MF.take 243) 919 [(2, 306)] [] (wr WI) (wr WR) (MF.take 283) Q := by
  refine P_aload_n (n := 0) (q := 920) rfl rfl (by decide +kernel) ?_
  refine P_sipush (n := 3200) (q := 923) rfl rfl (by decide +kernel) ?_
  refine T_newi (N := 3200) (c := 347) (n := 283) (q := 925) rfl (by decide) (by decide +kernel) (by decide) (by decide) (hI.up (by decide)) (hR.up (by decide)) rfl (by decide +kernel) ?_
  refine T_putR wX11_254 rfl (fun _ => rfl) (by decide +kernel) (q := 928) rfl (by decide +kernel) ?_
  exact k (hI.up (by decide)) (Lt.one (hR.up (by decide)) (by decide))
theorem G_Ma_928 {X : CX} {d : Nat} {WI WR : List (Int × Int × Int)} {Q : PV → PF → PF → Prop} (hd : 1 ≤ d) (hI : Lt WI 348) (hR : Lt WR 348) (k : Lt WI 349 → Lt ((306, 59, 348) :: WR) 349 → PW X d (MF.take 319) mX11_init (MF.take 243) 937 [(2, 306)] [] (wr WI) (wr ((306, 59, 348) :: WR)) (MF.take 285) Q) : PW X d (MF.take 319) mX11_init (MF.take 243) 928 [(2, 306)] [] (wr WI) (wr WR) (MF.take 284) Q := by
  refine P_aload_n (n := 0) (q := 929) rfl rfl (by decide +kernel) ?_
  refine P_sipush (n := 154) (q := 932) rfl rfl (by decide +kernel) ?_
  refine T_newi (N := 154) (c := 348) (n := 284) (q := 934) rfl (by decide) (by decide +kernel) (by decide) (by decide) (hI.up (by decide)) (hR.up (by decide)) rfl (by decide +kernel) ?_
  refine T_putR wX11_303 rfl (fun _ => rfl) (by decide +kernel) (q := 937) rfl (by decide +kernel) ?_
  exact k (hI.up (by decide)) (Lt.one (hR.up (by decide)) (by decide))
theorem G_Ma_937 {X : CX} {d : Nat} {WI WR : List (Int × Int × Int)} {Q : PV → PF → PF → Prop} (hd : 1 ≤ d) (hI : Lt WI 349) (hR : Lt WR 349) (k : Lt WI 350 → Lt ((306, 60, 349) :: WR) 350 → PW X d (MF.take 319) mX11_init (MF.take 243) 945 [(2, 306)] [] (wr WI) (wr ((306, 60, 349) :: WR)) (MF.take 286) Q) : PW X d (MF.take 319) mX11_init (MF.take 243) 937 [(2, 306)] [] (wr WI) (wr WR) (MF.take 285) Q := by
  refine P_aload_n (n := 0) (q := 938) rfl rfl (by decide +kernel) ?_
  refine P_bipush (n := 33) (q := 940) rfl rfl (by decide +kernel) ?_
  refine T_newi (N := 33) (c := 349) (n := 285) (q := 942) rfl (by decide) (by decide +kernel) (by decide) (by decide) (hI.up (by decide)) (hR.up (by decide)) rfl (by decide +kernel) ?_
  refine T_putR wX11_317 rfl (fun _ => rfl) (by decide +kernel) (q := 945) rfl (by decide +kernel) ?_
  exact k (hI.up (by decide)) (Lt.one (hR.up (by decide)) (by decide))
theorem G_Ma_945 {X : CX} {d : Nat} {WI WR : List (Int × Int × Int)} {Q : PV → PF → PF → Prop} (hd : 1 ≤ d) (hI : Lt WI 350) (hR : Lt WR 350) (k : Lt WI 351 → Lt ((306, 63, 350) :: WR) 351 → PW X d (MF.take 319) mX11_init (MF.take 243) 953 [(2, 306)] [] (wr WI) (wr ((306, 63, 350) :: WR)) (MF.take 287) Q) : PW X d (MF.take 319) mX11_init (MF.take 243) 945 [(2, 306)] [] (wr WI) (wr WR) (MF.take 286) Q := by
  refine P_aload_n (n := 0) (q := 946) rfl rfl (by decide +kernel) ?_
  refine P_bipush (n := 6) (q := 948) rfl rfl (by decide +kernel) ?_
  refine T_newi (N := 6) (c := 350) (n := 286) (q := 950) rfl (by decide) (by decide +kernel) (by decide) (by decide) (hI.up (by decide)) (hR.up (by decide)) rfl (by decide +kernel) ?_
  refine T_putR wX11_320 rfl (fun _ => rfl) (by decide +kernel) (q := 953) rfl (by decide +kernel) ?_
  exact k (hI.up (by decide)) (Lt.one (hR.up (by decide)) (by decide))
theorem G_Ma_953 {X : CX} {d : Nat} {WI WR : List (Int × Int × Int)} {Q : PV → PF → PF → Prop} (hd : 1 ≤ d) (hI : Lt WI 351) (hR : Lt WR 351) (k : Lt WI 352 → Lt ((306, 67, 351) :: WR) 352 → PW X d (MF.take 319) mX11_init (MF.take 243) 961 [(2, 306)] [] (wr WI) (wr ((306, 67, 351) :: WR)) (MF.take 288) Q) : PW X d (MF.take 319) mX11_init (MF.take 243) 953 [(2, 306)] [] (wr WI) (wr WR) (MF.take 287) Q := by
  refine P_aload_n (n := 0) (q := 954) rfl rfl (by decide +kernel) ?_
  refine P_bipush (n := 6) (q := 956) rfl rfl (by decide +kernel) ?_
  refine T_newi (N := 6) (c := 351) (n := 287) (q := 958) rfl (by decide) (by decide +kernel) (by decide) (by decide) (hI.up (by decide)) (hR.up (by decide)) rfl (by decide +kernel) ?_
  refine T_putR wX11_323 rfl (fun _ => rfl) (by decide +kernel) (q := 961) rfl (by decide +kernel) ?_
  exact k (hI.up (by decide)) (Lt.one (hR.up (by decide)) (by decide))
theorem G_Ma_961 {X : CX} {d : Nat} {WI WR : List (Int × Int × Int)} {Q : PV → PF → PF → Prop} (hd : 1 ≤ d) (hI : Lt WI 352) (hR : Lt WR 352) (k : Lt WI 353 → Lt ((306, 68, 352) :: WR) 353 → PW X d (MF.take 319) mX11_init (MF.take 243) 969 [(2, 306)] [] (wr WI) (wr ((306, 68, 352) :: WR)) (MF.take 289) Q) : PW X d (MF.take 319) mX11_init (MF.take 243) 961 [(2, 306)] [] (wr WI) (wr WR) (MF.take 288) Q := by
  refine P_aload_n (n := 0) (q := 962) rfl rfl (by decide +kernel) ?_
  refine P_bipush (n := 6) (q := 964) rfl rfl (by decide +kernel) ?_
  refine T_newi (N := 6) (c := 352) (n := 288) (q := 966) rfl (by decide) (by decide +kernel) (by decide) (by decide) (hI.up (by decide)) (hR.up (by decide)) rfl (by decide +kernel) ?_
  refine T_putR wX11_326 rfl (fun _ => rfl) (by decide +kernel) (q := 969) rfl (by decide +kernel) ?_
  exact k (hI.up (by decide)) (Lt.one (hR.up (by decide)) (by decide))
theorem G_Ma_969 {X : CX} {d : Nat} {WI WR : List (Int × Int × Int)} {Q : PV → PF → PF → Prop} (hd : 1 ≤ d) (hI : Lt WI 353) (hR : Lt WR 353) (k : Lt WI 354 → Lt ((306, 74, 353) :: WR) 354 → PW X d (MF.take 319) mX11_init (MF.take 243) 977 [(2, 306)] [] (wr WI) (wr ((306, 74, 353) :: WR)) (MF.take 290) Q) : PW X d (MF.take 319) mX11_init (MF.take 243) 969 [(2, 306)] [] (wr WI) (wr WR) (MF.take 289) Q := by
  refine P_aload_n (n := 0) (q := 970) rfl rfl (by decide +kernel) ?_
  refine P_bipush (n := 7) (q := 972) rfl rfl (by decide +kernel) ?_
  refine T_newi (N := 7) (c := 353) (n := 289) (q := 974) rfl (by decide) (by decide +kernel) (by decide) (by decide) (hI.up (by decide)) (hR.up (by decide)) rfl (by decide +kernel) ?_
  refine T_putR wX11_329 rfl (fun _ => rfl) (by decide +kernel) (q := 977) rfl (by decide +kernel) ?_
  exact k (hI.up (by decide)) (Lt.one (hR.up (by decide)) (by decide))
theorem G_Ma_977 {X : CX} {d : Nat} {WI WR : List (Int × Int × Int)} {Q : PV → PF → PF → Prop} (hd : 1 ≤ d) (hI : Lt WI 354) (hR : Lt WR 354) (k : Lt WI 355 → Lt ((306, 75, 354) :: WR) 355 → PW X d (MF.take 319) mX11_init (MF.take 243) 986 [(2, 306)] [] (wr WI) (wr ((306, 75, 354) :: WR)) (MF.take 291) Q) : PW X d (MF.take 319) mX11_init (MF.take 243) 977 [(2, 306)] [] (wr WI) (wr WR) (MF.take 290) Q := by
  refine P_aload_n (n := 0) (q := 978) rfl rfl (by decide +kernel) ?_
  refine P_sipush (n := 3080) (q := 981) rfl rfl (by decide +kernel) ?_
  refine T_newi (N := 3080) (c := 354) (n := 290) (q := 983) rfl (by decide) (by decide +kernel) (by decide) (by decide) (hI.up (by decide)) (hR.up (by decide)) rfl (by decide +kernel) ?_
  refine T_putR wX11_332 rfl (fun _ => rfl) (by decide +kernel) (q := 986) rfl (by decide +kernel) ?_
  exact k (hI.up (by decide)) (Lt.one (hR.up (by decide)) (by decide))
theorem G_Ma_986 {X : CX} {d : Nat} {WI WR : List (Int × Int × Int)} {Q : PV → PF → PF → Prop} (hd : 1 ≤ d) (hI : Lt WI 355) (hR : Lt WR 355) (k : Lt ((306, 78, 1) :: WI) 355 → Lt WR 355 → PW X d (MF.take 319) mX11_init (MF.take 243) 991 [(2, 306)] [] (wr ((306, 78, 1) :: WI)) (wr WR) (MF.take 291) Q) : PW X d (MF.take 319) mX11_init (MF.take 243) 986 [(2, 306)] [] (wr WI) (wr WR) (MF.take 291) Q := by
  refine P_aload_n (n := 0) (q := 987) rfl rfl (by decide +kernel) ?_
  refine P_lconst (n := 1) (x := 1) (q := 988) rfl rfl (by decide +kernel) ?_
  refine T_putL wX11_335 (fun h => by cases h) (by decide +kernel) (q := 991) rfl (by decide +kernel) ?_
  exact k (Lt.one (hI.up (by decide)) (by decide)) (hR.up (by decide))
theorem G_Ma_991 {X : CX} {d : Nat} {WI WR : List (Int × Int × Int)} {Q : PV → PF → PF → Prop} (hd : 1 ≤ d) (hI : Lt WI 355) (hR : Lt WR 355) (k : Lt ((355, 4, 116) :: ((355, 3, 115) :: ((355, 2, 114) :: ((355, 1, 105) :: ((355, 0, 102) :: WI))))) 356 → Lt ((306, 79, 355) :: WR) 356 → PW X d (MF.take 319) mX11_init (MF.take 243) 1023 [(2, 306)] [] (wr ((355, 4, 116) :: ((355, 3, 115) :: ((355, 2, 114) :: ((355, 1, 105) :: ((355, 0, 102) :: WI)))))) (wr ((306, 79, 355) :: WR)) (MF.take 292) Q) : PW X d (MF.take 319) mX11_init (MF.take 243) 991 [(2, 306)] [] (wr WI) (wr WR) (MF.take 291) Q := by
  refine P_aload_n (n := 0) (q := 992) rfl rfl (by decide +kernel) ?_
  refine P_iconst (n := 5) (q := 993) rfl (by decide +kernel) ?_
  refine T_newc (N := 5) (c := 355) (n := 291) (q := 995) rfl (by decide) (by decide +kernel) (by decide) (by decide) (hI.up (by decide)) (hR.up (by decide)) rfl (by decide +kernel) ?_
  refine P_dup (Nat.ne_of_beq_eq_false rfl) (q := 996) rfl (by decide +kernel) ?_
  refine P_iconst (n := 0) (q := 997) rfl (by decide +kernel) ?_
  refine P_bipush (n := 102) (q := 999) rfl rfl (by decide +kernel) ?_
  refine T_cast rfl (by decide +kernel) (by decide) (by decide +kernel) (q := 1000) rfl (by decide +kernel) ?_
  refine P_dup (Nat.ne_of_beq_eq_false rfl) (q := 1001) rfl (by decide +kernel) ?_
  refine P_iconst (n := 1) (q := 1002) rfl (by decide +kernel) ?_
  refine P_bipush (n := 105) (q := 1004) rfl rfl (by decide +kernel) ?_
  refine T_cast rfl (by decide +kernel) (by decide) (by decide +kernel) (q := 1005) rfl (by decide +kernel) ?_
  refine P_dup (Nat.ne_of_beq_eq_false rfl) (q := 1006) rfl (by decide +kernel) ?_
  refine P_iconst (n := 2) (q := 1007) rfl (by decide +kernel) ?_
  refine P_bipush (n := 114) (q := 1009) rfl rfl (by decide +kernel) ?_
  refine T_cast rfl (by decide +kernel) (by decide) (by decide +kernel) (q := 1010) rfl (by decide +kernel) ?_
  refine P_dup (Nat.ne_of_beq_eq_false rfl) (q := 1011) rfl (by decide +kernel) ?_
  refine P_iconst (n := 3) (q := 1012) rfl (by decide +kernel) ?_
  refine P_bipush (n := 115) (q := 1014) rfl rfl (by decide +kernel) ?_
  refine T_cast rfl (by decide +kernel) (by decide) (by decide +kernel) (q := 1015) rfl (by decide +kernel) ?_
  refine P_dup (Nat.ne_of_beq_eq_false rfl) (q := 1016) rfl (by decide +kernel) ?_
  refine P_iconst (n := 4) (q := 1017) rfl (by decide +kernel) ?_
  refine P_bipush (n := 116) (q := 1019) rfl rfl (by decide +kernel) ?_
  refine T_cast rfl (by decide +kernel) (by decide) (by decide +kernel) (q := 1020) rfl (by decide +kernel) ?_
  refine T_putR wX11_339 rfl (fun _ => rfl) (by decide +kernel) (q := 1023) rfl (by decide +kernel) ?_
  exact k (Lt.one (Lt.one (Lt.one (Lt.one (Lt.one (hI.up (by decide)) (by decide)) (by decide)) (by decide)) (by decide)) (by decide)) (Lt.one (hR.up (by decide)) (by decide))
theorem G_Ma_1023 {X : CX} {d : Nat} {WI WR : List (Int × Int × Int)} {Q : PV → PF → PF → Prop} (hd : 1 ≤ d) (hI : Lt WI 356) (hR : Lt WR 356) (k : Lt ((356, 3, 116) :: ((356, 2, 115) :: ((356, 1, 97) :: ((356, 0, 108) :: WI)))) 357 → Lt ((306, 80, 356) :: WR) 357 → PW X d (MF.take 319) mX11_init (MF.take 243) 1050 [(2, 306)] [] (wr ((356, 3, 116) :: ((356, 2, 115) :: ((356, 1, 97) :: ((356, 0, 108) :: WI))))) (wr ((306, 80, 356) :: WR)) (MF.take 293) Q) : PW X d (MF.take 319) mX11_init (MF.take 243) 1023 [(2, 306)] [] (wr WI) (wr WR) (MF.take 292) Q := by
  refine P_aload_n (n := 0) (q := 1024) rfl rfl (by decide +kernel) ?_
  refine P_iconst (n := 4) (q := 1025) rfl (by decide +kernel) ?_
  refine T_newc (N := 4) (c := 356) (n := 292) (q := 1027) rfl (by decide) (by decide +kernel) (by decide) (by decide) (hI.up (by decide)) (hR.up (by decide)) rfl (by decide +kernel) ?_
  refine P_dup (Nat.ne_of_beq_eq_false rfl) (q := 1028) rfl (by decide +kernel) ?_
  refine P_iconst (n := 0) (q := 1029) rfl (by decide +kernel) ?_
  refine P_bipush (n := 108) (q := 1031) rfl rfl (by decide +kernel) ?_
  refine T_cast rfl (by decide +kernel) (by decide) (by decide +kernel) (q := 1032) rfl (by decide +kernel) ?_
  refine P_dup (Nat.ne_of_beq_eq_false rfl) (q := 1033) rfl (by decide +kernel) ?_
  refine P_iconst (n := 1) (q := 1034) rfl (by decide +kernel) ?_
  refine P_bipush (n := 97) (q := 1036) rfl rfl (by decide +kernel) ?_
  refine T_cast rfl (by decide +kernel) (by decide) (by decide +kernel) (q := 1037) rfl (by decide +kernel) ?_
  refine P_dup (Nat.ne_of_beq_eq_false rfl) (q := 1038) rfl (by decide +kernel) ?_
  refine P_iconst (n := 2) (q := 1039) rfl (by decide +kernel) ?_
  refine P_bipush (n := 115) (q := 1041) rfl rfl (by decide +kernel) ?_
  refine T_cast rfl (by decide +kernel) (by decide) (by decide +kernel) (q := 1042) rfl (by decide +kernel) ?_
  refine P_dup (Nat.ne_of_beq_eq_false rfl) (q := 1043) rfl (by decide +kernel) ?_
  refine P_iconst (n := 3) (q := 1044) rfl (by decide +kernel) ?_
  refine P_bipush (n := 116) (q := 1046) rfl rfl (by decide +kernel) ?_
  refine T_cast rfl (by decide +kernel) (by decide) (by decide +kernel) (q := 1047) rfl (by decide +kernel) ?_
  refine T_putR wX11_342 rfl (fun _ => rfl) (by decide +kernel) (q := 1050) rfl (by decide +kernel) ?_
  exact k (Lt.one (Lt.one (Lt.one (Lt.one (hI.up (by decide)) (by decide)) (by decide)) (by decide)) (by decide)) (Lt.one (hR.up (by decide)) (by decide))
theorem G_Ma_1050 {X : CX} {d : Nat} {WI WR : List (Int × Int × Int)} {Q : PV → PF → PF → Prop} (hd : 1 ≤ d) (hI : Lt WI 357) (hR : Lt WR 357) (k : Lt ((357, 4, 110) :: ((357, 3, 101) :: ((357, 2, 116) :: ((357, 1, 102) :: ((357, 0, 111) :: WI))))) 358 → Lt ((306, 81, 357) :: WR) 358 → PW X d (MF.take 319) mX11_init (MF.take 243) 1082 [(2, 306)] [] (wr ((357, 4, 110) :: ((357, 3, 101) :: ((357, 2, 116) :: ((357, 1, 102) :: ((357, 0, 111) :: WI)))))) (wr ((306, 81, 357) :: WR)) (MF.take 294) Q) : PW X d (MF.take 319) mX11_init (MF.take 243) 1050 [(2, 306)] [] (wr WI) (wr WR) (MF.take 293) Q := by
  refine P_aload_n (n := 0) (q := 1051) rfl rfl (by decide +kernel) ?_
  refine P_iconst (n := 5) (q := 1052) rfl (by decide +kernel) ?_
  refine T_newc (N := 5) (c := 357) (n := 293) (q := 1054) rfl (by decide) (by decide +kernel) (by decide) (by decide) (hI.up (by decide)) (hR.up (by decide)) rfl (by decide +kernel) ?_
  refine P_dup (Nat.ne_of_beq_eq_false rfl) (q := 1055) rfl (by decide +kernel) ?_
  refine P_iconst (n := 0) (q := 1056) rfl (by decide +kernel) ?_
  refine P_bipush (n := 111) (q := 1058) rfl rfl (by decide +kernel) ?_
  refine T_cast rfl (by decide +kernel) (by decide) (by decide +kernel) (q := 1059) rfl (by decide +kernel) ?_
  refine P_dup (Nat.ne_of_beq_eq_false rfl) (q := 1060) rfl (by decide +kernel) ?_
  refine P_iconst (n := 1) (q := 1061) rfl (by decide +kernel) ?_
  refine P_bipush (n := 102) (q := 1063) rfl rfl (by decide +kernel) ?_
  refine T_cast rfl (by decide +kernel) (by decide) (by decide +kernel) (q := 1064) rfl (by decide +kernel) ?_
  refine P_dup (Nat.ne_of_beq_eq_false rfl) (q := 1065) rfl (by decide +kernel) ?_
  refine P_iconst (n := 2) (q := 1066) rfl (by decide +kernel) ?_
  refine P_bipush (n := 116) (q := 1068) rfl rfl (by decide +kernel) ?_
  refine T_cast rfl (by decide +kernel) (by decide) (by decide +kernel) (q := 1069) rfl (by decide +kernel) ?_
  refine P_dup (Nat.ne_of_beq_eq_false rfl) (q := 1070) rfl (by decide +kernel) ?_
  refine P_iconst (n := 3) (q := 1071) rfl (by decide +kernel) ?_
  refine P_bipush (n := 101) (q := 1073) rfl rfl (by decide +kernel) ?_
  refine T_cast rfl (by decide +kernel) (by decide) (by decide +kernel) (q := 1074) rfl (by decide +kernel) ?_
  refine P_dup (Nat.ne_of_beq_eq_false rfl) (q := 1075) rfl (by decide +kernel) ?_
  refine P_iconst (n := 4) (q := 1076) rfl (by decide +kernel) ?_
  refine P_bipush (n := 110) (q := 1078) rfl rfl (by decide +kernel) ?_
  refine T_cast rfl (by decide +kernel) (by decide) (by decide +kernel) (q := 1079) rfl (by decide +kernel) ?_
  refine T_putR wX11_345 rfl (fun _ => rfl) (by decide +kernel) (q := 1082) rfl (by decide +kernel) ?_
  exact k (Lt.one (Lt.one (Lt.one (Lt.one (Lt.one (hI.up (by decide)) (by decide)) (by decide)) (by decide)) (by decide)) (by decide)) (Lt.one (hR.up (by decide)) (by decide))
theorem G_Ma_1082 {X : CX} {d : Nat} {WI WR : List (Int × Int × Int)} {Q : PV → PF → PF → Prop} (hd : 1 ≤ d) (hI : Lt WI 358) (hR : Lt WR 358) (k : Lt ((358, 4, 108) :: ((358, 3, 97) :: ((358, 2, 116) :: ((358, 1, 111) :: ((358, 0, 116) :: WI))))) 359 → Lt ((306, 82, 358) :: WR) 359 → PW X d (MF.take 319) mX11_init (MF.take 243) 1114 [(2, 306)] [] (wr ((358, 4, 108) :: ((358, 3, 97) :: ((358, 2, 116) :: ((358, 1, 111) :: ((358, 0, 116) :: WI)))))) (wr ((306, 82, 358) :: WR)) (MF.take 295) Q) : PW X d (MF.take 319) mX11_init (MF.take 243) 1082 [(2, 306)] [] (wr WI) (wr WR) (MF.take 294) Q := by
  refine P_aload_n (n := 0) (q := 1083) rfl rfl (by decide +kernel) ?_
  refine P_iconst (n := 5) (q := 1084) rfl (by decide +kernel) ?_
  refine T_newc (N := 5) (c := 358) (n := 294) (q := 1086) rfl (by decide) (by decide +kernel) (by decide) (by decide) (hI.up (by decide)) (hR.up (by decide)) rfl (by decide +kernel) ?_
  refine P_dup (Nat.ne_of_beq_eq_false rfl) (q := 1087) rfl (by decide +kernel) ?_
  refine P_iconst (n := 0) (q := 1088) rfl (by decide +kernel) ?_
  refine P_bipush (n := 116) (q := 1090) rfl rfl (by decide +kernel) ?_
  refine T_cast rfl (by decide +kernel) (by decide) (by decide +kernel) (q := 1091) rfl (by decide +kernel) ?_
  refine P_dup (Nat.ne_of_beq_eq_false rfl) (q := 1092) rfl (by decide +kernel) ?_
  refine P_iconst (n := 1) (q := 1093) rfl (by decide +kernel) ?_
  refine P_bipush (n := 111) (q := 1095) rfl rfl (by decide +kernel) ?_
  refine T_cast rfl (by decide +kernel) (by decide) (by decide +kernel) (q := 1096) rfl (by decide +kernel) ?_
  refine P_dup (Nat.ne_of_beq_eq_false rfl) (q := 1097) rfl (by decide +kernel) ?_
  refine P_iconst (n := 2) (q := 1098) rfl (by decide +kernel) ?_
  refine P_bipush (n := 116) (q := 1100) rfl rfl (by decide +kernel) ?_
  refine T_cast rfl (by decide +kernel) (by decide) (by decide +kernel) (q := 1101) rfl (by decide +kernel) ?_
  refine P_dup (Nat.ne_of_beq_eq_false rfl) (q := 1102) rfl (by decide +kernel) ?_
  refine P_iconst (n := 3) (q := 1103) rfl (by decide +kernel) ?_
  refine P_bipush (n := 97) (q := 1105) rfl rfl (by decide +kernel) ?_
  refine T_cast rfl (by decide +kernel) (by decide) (by decide +kernel) (q := 1106) rfl (by decide +kernel) ?_
  refine P_dup (Nat.ne_of_beq_eq_false rfl) (q := 1107) rfl (by decide +kernel) ?_
  refine P_iconst (n := 4) (q := 1108) rfl (by decide +kernel) ?_
  refine P_bipush (n := 108) (q := 1110) rfl rfl (by decide +kernel) ?_
  refine T_cast rfl (by decide +kernel) (by decide) (by decide +kernel) (q := 1111) rfl (by decide +kernel) ?_
  refine T_putR wX11_348 rfl (fun _ => rfl) (by decide +kernel) (q := 1114) rfl (by decide +kernel) ?_
  exact k (Lt.one (Lt.one (Lt.one (Lt.one (Lt.one (hI.up (by decide)) (by decide)) (by decide)) (by decide)) (by decide)) (by decide)) (Lt.one (hR.up (by decide)) (by decide))
theorem G_Ma_1114 {X : CX} {d : Nat} {WI WR : List (Int × Int × Int)} {Q : PV → PF → PF → Prop} (hd : 1 ≤ d) (hI : Lt WI 359) (hR : Lt WR 359) (k : Lt ((359, 3, 116) :: ((359, 2, 115) :: ((359, 1, 111) :: ((359, 0, 109) :: WI)))) 360 → Lt ((306, 83, 359) :: WR) 360 → PW X d (MF.take 319) mX11_init (MF.take 243) 1141 [(2, 306)] [] (wr ((359, 3, 116) :: ((359, 2, 115) :: ((359, 1, 111) :: ((359, 0, 109) :: WI))))) (wr ((306, 83, 359) :: WR)) (MF.take 296) Q) : PW X d (MF.take 319) mX11_init (MF.take 243) 1114 [(2, 306)] [] (wr WI) (wr WR) (MF.take 295) Q := by
  refine P_aload_n (n := 0) (q := 1115) rfl rfl (by decide +kernel) ?_
  refine P_iconst (n := 4) (q := 1116) rfl (by decide +kernel) ?_
  refine T_newc (N := 4) (c := 359) (n := 295) (q := 1118) rfl (by decide) (by decide +kernel) (by decide) (by decide) (hI.up (by decide)) (hR.up (by decide)) rfl (by decide +kernel) ?_
  refine P_dup (Nat.ne_of_beq_eq_false rfl) (q := 1119) rfl (by decide +kernel) ?_
  refine P_iconst (n := 0) (q := 1120) rfl (by decide +kernel) ?_
  refine P_bipush (n := 109) (q := 1122) rfl rfl (by decide +kernel) ?_
  refine T_cast rfl (by decide +kernel) (by decide) (by decide +kernel) (q := 1123) rfl (by decide +kernel) ?_
  refine P_dup (Nat.ne_of_beq_eq_false rfl) (q := 1124) rfl (by decide +kernel) ?_
  refine P_iconst (n := 1) (q := 1125) rfl (by decide +kernel) ?_
  refine P_bipush (n := 111) (q := 1127) rfl rfl (by decide +kernel) ?_
  refine T_cast rfl (by decide +kernel) (by decide) (by decide +kernel) (q := 1128) rfl (by decide +kernel) ?_
  refine P_dup (Nat.ne_of_beq_eq_false rfl) (q := 1129) rfl (by decide +kernel) ?_
  refine P_iconst (n := 2) (q := 1130) rfl (by decide +kernel) ?_
  refine P_bipush (n := 115) (q := 1132) rfl rfl (by decide +kernel) ?_
  refine T_cast rfl (by decide +kernel) (by decide) (by decide +kernel) (q := 1133) rfl (by decide +kernel) ?_
  refine P_dup (Nat.ne_of_beq_eq_false rfl) (q := 1134) rfl (by decide +kernel) ?_
  refine P_iconst (n := 3) (q := 1135) rfl (by decide +kernel) ?_
  refine P_bipush (n := 116) (q := 1137) rfl rfl (by decide +kernel) ?_
  refine T_cast rfl (by decide +kernel) (by decide) (by decide +kernel) (q := 1138) rfl (by decide +kernel) ?_
  refine T_putR wX11_351 rfl (fun _ => rfl) (by decide +kernel) (q := 1141) rfl (by decide +kernel) ?_
  exact k (Lt.one (Lt.one (Lt.one (Lt.one (hI.up (by decide)) (by decide)) (by decide)) (by decide)) (by decide)) (Lt.one (hR.up (by decide)) (by decide))
theorem G_Ma_1141 {X : CX} {d : Nat} {WI WR : List (Int × Int × Int)} {Q : PV → PF → PF → Prop} (hd : 1 ≤ d) (hI : Lt WI 360) (hR : Lt WR 360) (k : Lt ((360, 4, 116) :: ((360, 3, 115) :: ((360, 2, 97) :: ((360, 1, 101) :: ((360, 0, 108) :: WI))))) 361 → Lt ((306, 84, 360) :: WR) 361 → PW X d (MF.take 319) mX11_init (MF.take 243) 1173 [(2, 306)] [] (wr ((360, 4, 116) :: ((360, 3, 115) :: ((360, 2, 97) :: ((360, 1, 101) :: ((360, 0, 108) :: WI)))))) (wr ((306, 84, 360) :: WR)) (MF.take 297) Q) : PW X d (MF.take 319) mX11_init (MF.take 243) 1141 [(2, 306)] [] (wr WI) (wr WR) (MF.take 296) Q := by
  refine P_aload_n (n := 0) (q := 1142) rfl rfl (by decide +kernel) ?_
  refine P_iconst (n := 5) (q := 1143) rfl (by decide +kernel) ?_
  refine T_newc (N := 5) (c := 360) (n := 296) (q := 1145) rfl (by decide) (by decide +kernel) (by decide) (by decide) (hI.up (by decide)) (hR.up (by decide)) rfl (by decide +kernel) ?_
  refine P_dup (Nat.ne_of_beq_eq_false rfl) (q := 1146) rfl (by decide +kernel) ?_
  refine P_iconst (n := 0) (q := 1147) rfl (by decide +kernel) ?_
  refine P_bipush (n := 108) (q := 1149) rfl rfl (by decide +kernel) ?_
  refine T_cast rfl (by decide +kernel) (by decide) (by decide +kernel) (q := 1150) rfl (by decide +kernel) ?_
  refine P_dup (Nat.ne_of_beq_eq_false rfl) (q := 1151) rfl (by decide +kernel) ?_
  refine P_iconst (n := 1) (q := 1152) rfl (by decide +kernel) ?_
  refine P_bipush (n := 101) (q := 1154) rfl rfl (by decide +kernel) ?_
  refine T_cast rfl (by decide +kernel) (by decide) (by decide +kernel) (q := 1155) rfl (by decide +kernel) ?_
  refine P_dup (Nat.ne_of_beq_eq_false rfl) (q := 1156) rfl (by decide +kernel) ?_
  refine P_iconst (n := 2) (q := 1157) rfl (by decide +kernel) ?_
  refine P_bipush (n := 97) (q := 1159) rfl rfl (by decide +kernel) ?_
  refine T_cast rfl (by decide +kernel) (by decide) (by decide +kernel) (q := 1160) rfl (by decide +kernel) ?_
  refine P_dup (Nat.ne_of_beq_eq_false rfl) (q := 1161) rfl (by decide +kernel) ?_
  refine P_iconst (n := 3) (q := 1162) rfl (by decide +kernel) ?_
  refine P_bipush (n := 115) (q := 1164) rfl rfl (by decide +kernel) ?_
  refine T_cast rfl (by decide +kernel) (by decide) (by decide +kernel) (q := 1165) rfl (by decide +kernel) ?_
  refine P_dup (Nat.ne_of_beq_eq_false rfl) (q := 1166) rfl (by decide +kernel) ?_
  refine P_iconst (n := 4) (q := 1167) rfl (by decide +kernel) ?_
  refine P_bipush (n := 116) (q := 1169) rfl rfl (by decide +kernel) ?_
  refine T_cast rfl (by decide +kernel) (by decide) (by decide +kernel) (q := 1170) rfl (by decide +kernel) ?_
  refine T_putR wX11_354 rfl (fun _ => rfl) (by decide +kernel) (q := 1173) rfl (by decide +kernel) ?_
  exact k (Lt.one (Lt.one (Lt.one (Lt.one (Lt.one (hI.up (by decide)) (by decide)) (by decide)) (by decide)) (by decide)) (by decide)) (Lt.one (hR.up (by decide)) (by decide))
theorem G_Ma_1173 {X : CX} {d : Nat} {WI WR : List (Int × Int × Int)} {Q : PV → PF → PF → Prop} (hd : 1 ≤ d) (hI : Lt WI 361) (hR : Lt WR 361) (k : Lt ((361, 2, 116) :: ((361, 1, 111) :: ((361, 0, 110) :: WI))) 362 → Lt ((306, 85, 361) :: WR) 362 → PW X d (MF.take 319) mX11_init (MF.take 243) 1195 [(2, 306)] [] (wr ((361, 2, 116) :: ((361, 1, 111) :: ((361, 0, 110) :: WI)))) (wr ((306, 85, 361) :: WR)) (MF.take 298) Q) : PW X d (MF.take 319) mX11_init (MF.take 243) 1173 [(2, 306)] [] (wr WI) (wr WR) (MF.take 297) Q := by
  refine P_aload_n (n := 0) (q := 1174) rfl rfl (by decide +kernel) ?_
  refine P_iconst (n := 3) (q := 1175) rfl (by decide +kernel) ?_
  refine T_newc (N := 3) (c := 361) (n := 297) (q := 1177) rfl (by decide) (by decide +kernel) (by decide) (by decide) (hI.up (by decide)) (hR.up (by decide)) rfl (by decide +kernel) ?_
  refine P_dup (Nat.ne_of_beq_eq_false rfl) (q := 1178) rfl (by decide +kernel) ?_
  refine P_iconst (n := 0) (q := 1179) rfl (by decide +kernel) ?_
  refine P_bipush (n := 110) (q := 1181) rfl rfl (by decide +kernel) ?_
  refine T_cast rfl (by decide +kernel) (by decide) (by decide +kernel) (q := 1182) rfl (by decide +kernel) ?_
  refine P_dup (Nat.ne_of_beq_eq_false rfl) (q := 1183) rfl (by decide +kernel) ?_
  refine P_iconst (n := 1) (q := 1184) rfl (by decide +kernel) ?_
  refine P_bipush (n := 111) (q := 1186) rfl rfl (by decide +kernel) ?_
  refine T_cast rfl (by decide +kernel) (by decide) (by decide +kernel) (q := 1187) rfl (by decide +kernel) ?_
  refine P_dup (Nat.ne_of_beq_eq_false rfl) (q := 1188) rfl (by decide +kernel) ?_
  refine P_iconst (n := 2) (q := 1189) rfl (by decide +kernel) ?_
  refine P_bipush (n := 116) (q := 1191) rfl rfl (by decide +kernel) ?_
  refine T_cast rfl (by decide +kernel) (by decide) (by decide +kernel) (q := 1192) rfl (by decide +kernel) ?_
  refine T_putR wX11_357 rfl (fun _ => rfl) (by decide +kernel) (q := 1195) rfl (by decide +kernel) ?_
  exact k (Lt.one (Lt.one (Lt.one (hI.up (by decide)) (by decide)) (by decide)) (by decide)) (Lt.one (hR.up (by decide)) (by decide))
theorem G_Ma_1195 {X : CX} {d : Nat} {WI WR : List (Int × Int × Int)} {Q : PV → PF → PF → Prop} (hd : 1 ≤ d) (hI : Lt WI 362) (hR : Lt WR 362) (k : Lt ((362, 2, 100) :: ((362, 1, 110) :: ((362, 0, 97) :: WI))) 363 → Lt ((306, 86, 362) :: WR) 363 → PW X d (MF.take 319) mX11_init (MF.take 243) 1217 [(2, 306)] [] (wr ((362, 2, 100) :: ((362, 1, 110) :: ((362, 0, 97) :: WI)))) (wr ((306, 86, 362) :: WR)) (MF.take 299) Q) : PW X d (MF.take 319) mX11_init (MF.take 243) 1195 [(2, 306)] [] (wr WI) (wr WR) (MF.take 298) Q := by
  refine P_aload_n (n := 0) (q := 1196) rfl rfl (by decide +kernel) ?_
  refine P_iconst (n := 3) (q := 1197) rfl (by decide +kernel) ?_
  refine T_newc (N := 3) (c := 362) (n := 298) (q := 1199) rfl (by decide) (by decide +kernel) (by decide) (by decide) (hI.up (by decide)) (hR.up (by decide)) rfl (by decide +kernel) ?_
  refine P_dup (Nat.ne_of_beq_eq_false rfl) (q := 1200) rfl (by decide +kernel) ?_
  refine P_iconst (n := 0) (q := 1201) rfl (by decide +kernel) ?_
  refine P_bipush (n := 97) (q := 1203) rfl rfl (by decide +kernel) ?_
  refine T_cast rfl (by decide +kernel) (by decide) (by decide +kernel) (q := 1204) rfl (by decide +kernel) ?_
  refine P_dup (Nat.ne_of_beq_eq_false rfl) (q := 1205) rfl (by decide +kernel) ?_
  refine P_iconst (n := 1) (q := 1206) rfl (by decide +kernel) ?_
  refine P_bipush (n := 110) (q := 1208) rfl rfl (by decide +kernel) ?_
  refine T_cast rfl (by decide +kernel) (by decide) (by decide +kernel) (q := 1209) rfl (by decide +kernel) ?_
  refine P_dup (Nat.ne_of_beq_eq_false rfl) (q := 1210) rfl (by decide +kernel) ?_
  refine P_iconst (n := 2) (q := 1211) rfl (by decide +kernel) ?_
  refine P_bipush (n := 100) (q := 1213) rfl rfl (by decide +kernel) ?_
  refine T_cast rfl (by decide +kernel) (by decide) (by decide +kernel) (q := 1214) rfl (by decide +kernel) ?_
  refine T_putR wX11_360 rfl (fun _ => rfl) (by decide +kernel) (q := 1217) rfl (by decide +kernel) ?_
  exact k (Lt.one (Lt.one (Lt.one (hI.up (by decide)) (by decide)) (by decide)) (by decide)) (Lt.one (hR.up (by decide)) (by decide))
theorem G_Ma_1217 {X : CX} {d : Nat} {WI WR : List (Int × Int × Int)} {Q : PV → PF → PF → Prop} (hd : 1 ≤ d) (hI : Lt WI 363) (hR : Lt WR 363) (k : Lt ((363, 1, 114) :: ((363, 0, 111) :: WI)) 364 → Lt ((306, 87, 363) :: WR) 364 → PW X d (MF.take 319) mX11_init (MF.take 243) 1234 [(2, 306)] [] (wr ((363, 1, 114) :: ((363, 0, 111) :: WI))) (wr ((306, 87, 363) :: WR)) (MF.take 300) Q) : PW X d (MF.take 319) mX11_init (MF.take 243) 1217 [(2, 306)] [] (wr WI) (wr WR) (MF.take 299) Q := by
  refine P_aload_n (n := 0) (q := 1218) rfl rfl (by decide +kernel) ?_
  refine P_iconst (n := 2) (q := 1219) rfl (by decide +kernel) ?_
  refine T_newc (N := 2) (c := 363) (n := 299) (q := 1221) rfl (by decide) (by decide +kernel) (by decide) (by decide) (hI.up (by decide)) (hR.up (by decide)) rfl (by decide +kernel) ?_
  refine P_dup (Nat.ne_of_beq_eq_false rfl) (q := 1222) rfl (by decide +kernel) ?_
  refine P_iconst (n := 0) (q := 1223) rfl (by decide +kernel) ?_
  refine P_bipush (n := 111) (q := 1225) rfl rfl (by decide +kernel) ?_
  refine T_cast rfl (by decide +kernel) (by decide) (by decide +kernel) (q := 1226) rfl (by decide +kernel) ?_
  refine P_dup (Nat.ne_of_beq_eq_false rfl) (q := 1227) rfl (by decide +kernel) ?_
  refine P_iconst (n := 1) (q := 1228) rfl (by decide +kernel) ?_
  refine P_bipush (n := 114) (q := 1230) rfl rfl (by decide +kernel) ?_
  refine T_cast rfl (by decide +kernel) (by decide) (by decide +kernel) (q := 1231) rfl (by decide +kernel) ?_
  refine T_putR wX11_363 rfl (fun _ => rfl) (by decide +kernel) (q := 1234) rfl (by decide +kernel) ?_
  exact k (Lt.one (Lt.one (hI.up (by decide)) (by decide)) (by decide)) (Lt.one (hR.up (by decide)) (by decide))
theorem G_Ma_1234 {X : CX} {d : Nat} {WI WR : List (Int × Int × Int)} {Q : PV → PF → PF → Prop} (hd : 1 ≤ d) (hI : Lt WI 364) (hR : Lt WR 364) (k : Lt ((364, 2, 108) :: ((364, 1, 108) :: ((364, 0, 97) :: WI))) 365 → Lt ((306, 88, 364) :: WR) 365 → PW X d (MF.take 319) mX11_init (MF.take 243) 1256 [(2, 306)] [] (wr ((364, 2, 108) :: ((364, 1, 108) :: ((364, 0, 97) :: WI)))) (wr ((306, 88, 364) :: WR)) (MF.take 301) Q) : PW X d (MF.take 319) mX11_init (MF.take 243) 1234 [(2, 306)] [] (wr WI) (wr WR) (MF.take 300) Q := by
  refine P_aload_n (n := 0) (q := 1235) rfl rfl (by decide +kernel) ?_
  refine P_iconst (n := 3) (q := 1236) rfl (by decide +kernel) ?_
  refine T_newc (N := 3) (c := 364) (n := 300) (q := 1238) rfl (by decide) (by decide +kernel) (by decide) (by decide) (hI.up (by decide)) (hR.up (by decide)) rfl (by decide +kernel) ?_
  refine P_dup (Nat.ne_of_beq_eq_false rfl) (q := 1239) rfl (by decide +kernel) ?_
  refine P_iconst (n := 0) (q := 1240) rfl (by decide +kernel) ?_
  refine P_bipush (n := 97) (q := 1242) rfl rfl (by decide +kernel) ?_
  refine T_cast rfl (by decide +kernel) (by decide) (by decide +kernel) (q := 1243) rfl (by decide +kernel) ?_
  refine P_dup (Nat.ne_of_beq_eq_false rfl) (q := 1244) rfl (by decide +kernel) ?_
  refine P_iconst (n := 1) (q := 1245) rfl (by decide +kernel) ?_
  refine P_bipush (n := 108) (q := 1247) rfl rfl (by decide +kernel) ?_
  refine T_cast rfl (by decide +kernel) (by decide) (by decide +kernel) (q := 1248) rfl (by decide +kernel) ?_
  refine P_dup (Nat.ne_of_beq_eq_false rfl) (q := 1249) rfl (by decide +kernel) ?_
  refine P_iconst (n := 2) (q := 1250) rfl (by decide +kernel) ?_
  refine P_bipush (n := 108) (q := 1252) rfl rfl (by decide +kernel) ?_
  refine T_cast rfl (by decide +kernel) (by decide) (by decide +kernel) (q := 1253) rfl (by decide +kernel) ?_
  refine T_putR wX11_366 rfl (fun _ => rfl) (by decide +kernel) (q := 1256) rfl (by decide +kernel) ?_
  exact k (Lt.one (Lt.one (Lt.one (hI.up (by decide)) (by decide)) (by decide)) (by decide)) (Lt.one (hR.up (by decide)) (by decide))
theorem G_Ma_1256 {X : CX} {d : Nat} {WI WR : List (Int × Int × Int)} {Q : PV → PF → PF → Prop} (hd : 1 ≤ d) (hI : Lt WI 365) (hR : Lt WR 365) (k : Lt ((365, 2, 110) :: ((365, 1, 105) :: ((365, 0, 109) :: WI))) 366 → Lt ((306, 89, 365) :: WR) 366 → PW X d (MF.take 319) mX11_init (MF.take 243) 1278 [(2, 306)] [] (wr ((365, 2, 110) :: ((365, 1, 105) :: ((365, 0, 109) :: WI)))) (wr ((306, 89, 365) :: WR)) (MF.take 302) Q) : PW X d (MF.take 319) mX11_init (MF.take 243) 1256 [(2, 306)] [] (wr WI) (wr WR) (MF.take 301) Q := by
  refine P_aload_n (n := 0) (q := 1257) rfl rfl (by decide +kernel) ?_
  refine P_iconst (n := 3) (q := 1258) rfl (by decide +kernel) ?_
  refine T_newc (N := 3) (c := 365) (n := 301) (q := 1260) rfl (by decide) (by decide +kernel) (by decide) (by decide) (hI.up (by decide)) (hR.up (by decide)) rfl (by decide +kernel) ?_
  refine P_dup (Nat.ne_of_beq_eq_false rfl) (q := 1261) rfl (by decide +kernel) ?_
  refine P_iconst (n := 0) (q := 1262) rfl (by decide +kernel) ?_
  refine P_bipush (n := 109) (q := 1264) rfl rfl (by decide +kernel) ?_
  refine T_cast rfl (by decide +kernel) (by decide) (by decide +kernel) (q := 1265) rfl (by decide +kernel) ?_
  refine P_dup (Nat.ne_of_beq_eq_false rfl) (q := 1266) rfl (by decide +kernel) ?_
  refine P_iconst (n := 1) (q := 1267) rfl (by decide +kernel) ?_
  refine P_bipush (n := 105) (q := 1269) rfl rfl (by decide +kernel) ?_
  refine T_cast rfl (by decide +kernel) (by decide) (by decide +kernel) (q := 1270) rfl (by decide +kernel) ?_
  refine P_dup (Nat.ne_of_beq_eq_false rfl) (q := 1271) rfl (by decide +kernel) ?_
  refine P_iconst (n := 2) (q := 1272) rfl (by decide +kernel) ?_
  refine P_bipush (n := 110) (q := 1274) rfl rfl (by decide +kernel) ?_
  refine T_cast rfl (by decide +kernel) (by decide) (by decide +kernel) (q := 1275) rfl (by decide +kernel) ?_
  refine T_putR wX11_369 rfl (fun _ => rfl) (by decide +kernel) (q := 1278) rfl (by decide +kernel) ?_
  exact k (Lt.one (Lt.one (Lt.one (hI.up (by decide)) (by decide)) (by decide)) (by decide)) (Lt.one (hR.up (by decide)) (by decide))
theorem G_Ma_1278 {X : CX} {d : Nat} {WI WR : List (Int × Int × Int)} {Q : PV → PF → PF → Prop} (hd : 1 ≤ d) (hI : Lt WI 366) (hR : Lt WR 366) (k : Lt ((366, 2, 120) :: ((366, 1, 97) :: ((366, 0, 109) :: WI))) 367 → Lt ((306, 90, 366) :: WR) 367 → PW X d (MF.take 319) mX11_init (MF.take 243) 1300 [(2, 306)] [] (wr ((366, 2, 120) :: ((366, 1, 97) :: ((366, 0, 109) :: WI)))) (wr ((306, 90, 366) :: WR)) (MF.take 303) Q) : PW X d (MF.take 319) mX11_init (MF.take 243) 1278 [(2, 306)] [] (wr WI) (wr WR) (MF.take 302) Q := by
  refine P_aload_n (n := 0) (q := 1279) rfl rfl (by decide +kernel) ?_
  refine P_iconst (n := 3) (q := 1280) rfl (by decide +kernel) ?_
  refine T_newc (N := 3) (c := 366) (n := 302) (q := 1282) rfl (by decide) (by decide +kernel) (by decide) (by decide) (hI.up (by decide)) (hR.up (by decide)) rfl (by decide +kernel) ?_
  refine P_dup (Nat.ne_of_beq_eq_false rfl) (q := 1283) rfl (by decide +kernel) ?_
  refine P_iconst (n := 0) (q := 1284) rfl (by decide +kernel) ?_
  refine P_bipush (n := 109) (q := 1286) rfl rfl (by decide +kernel) ?_
  refine T_cast rfl (by decide +kernel) (by decide) (by decide +kernel) (q := 1287) rfl (by decide +kernel) ?_
  refine P_dup (Nat.ne_of_beq_eq_false rfl) (q := 1288) rfl (by decide +kernel) ?_
  refine P_iconst (n := 1) (q := 1289) rfl (by decide +kernel) ?_
  refine P_bipush (n := 97) (q := 1291) rfl rfl (by decide +kernel) ?_
  refine T_cast rfl (by decide +kernel) (by decide) (by decide +kernel) (q := 1292) rfl (by decide +kernel) ?_
  refine P_dup (Nat.ne_of_beq_eq_false rfl) (q := 1293) rfl (by decide +kernel) ?_
  refine P_iconst (n := 2) (q := 1294) rfl (by decide +kernel) ?_
  refine P_bipush (n := 120) (q := 1296) rfl rfl (by decide +kernel) ?_
  refine T_cast rfl (by decide +kernel) (by decide) (by decide +kernel) (q := 1297) rfl (by decide +kernel) ?_
  refine T_putR wX11_372 rfl (fun _ => rfl) (by decide +kernel) (q := 1300) rfl (by decide +kernel) ?_
  exact k (Lt.one (Lt.one (Lt.one (hI.up (by decide)) (by decide)) (by decide)) (by decide)) (Lt.one (hR.up (by decide)) (by decide))
theorem G_Ma_1300 {X : CX} {d : Nat} {WI WR : List (Int × Int × Int)} {Q : PV → PF → PF → Prop} (hd : 1 ≤ d) (hI : Lt WI 367) (hR : Lt WR 367) (k : Lt ((367, 3, 110) :: ((367, 2, 111) :: ((367, 1, 111) :: ((367, 0, 110) :: WI)))) 368 → Lt ((306, 91, 367) :: WR) 368 → PW X d (MF.take 319) mX11_init (MF.take 243) 1327 [(2, 306)] [] (wr ((367, 3, 110) :: ((367, 2, 111) :: ((367, 1, 111) :: ((367, 0, 110) :: WI))))) (wr ((306, 91, 367) :: WR)) (MF.take 304) Q) : PW X d (MF.take 319) mX11_init (MF.take 243) 1300 [(2, 306)] [] (wr WI) (wr WR) (MF.take 303) Q := by
  refine P_aload_n (n := 0) (q := 1301) rfl rfl (by decide +kernel) ?_
  refine P_iconst (n := 4) (q := 1302) rfl (by decide +kernel) ?_
  refine T_newc (N := 4) (c := 367) (n := 303) (q := 1304) rfl (by decide) (by decide +kernel) (by decide) (by decide) (hI.up (by decide)) (hR.up (by decide)) rfl (by decide +kernel) ?_
  refine P_dup (Nat.ne_of_beq_eq_false rfl) (q := 1305) rfl (by decide +kernel) ?_
  refine P_iconst (n := 0) (q := 1306) rfl (by decide +kernel) ?_
  refine P_bipush (n := 110) (q := 1308) rfl rfl (by decide +kernel) ?_
  refine T_cast rfl (by decide +kernel) (by decide) (by decide +kernel) (q := 1309) rfl (by decide +kernel) ?_
  refine P_dup (Nat.ne_of_beq_eq_false rfl) (q := 1310) rfl (by decide +kernel) ?_
  refine P_iconst (n := 1) (q := 1311) rfl (by decide +kernel) ?_
  refine P_bipush (n := 111) (q := 1313) rfl rfl (by decide +kernel) ?_
  refine T_cast rfl (by decide +kernel) (by decide) (by decide +kernel) (q := 1314) rfl (by decide +kernel) ?_
  refine P_dup (Nat.ne_of_beq_eq_false rfl) (q := 1315) rfl (by decide +kernel) ?_
  refine P_iconst (n := 2) (q := 1316) rfl (by decide +kernel) ?_
  refine P_bipush (n := 111) (q := 1318) rfl rfl (by decide +kernel) ?_
  refine T_cast rfl (by decide +kernel) (by decide) (by decide +kernel) (q := 1319) rfl (by decide +kernel) ?_
  refine P_dup (Nat.ne_of_beq_eq_false rfl) (q := 1320) rfl (by decide +kernel) ?_
  refine P_iconst (n := 3) (q := 1321) rfl (by decide +kernel) ?_
  refine P_bipush (n := 110) (q := 1323) rfl rfl (by decide +kernel) ?_
  refine T_cast rfl (by decide +kernel) (by decide) (by decide +kernel) (q := 1324) rfl (by decide +kernel) ?_
  refine T_putR wX11_375 rfl (fun _ => rfl) (by decide +kernel) (q := 1327) rfl (by decide +kernel) ?_
  exact k (Lt.one (Lt.one (Lt.one (Lt.one (hI.up (by decide)) (by decide)) (by decide)) (by decide)) (by decide)) (Lt.one (hR.up (by decide)) (by decide))
theorem G_Ma_1327 {X : CX} {d : Nat} {WI WR : List (Int × Int × Int)} {Q : PV → PF → PF → Prop} (hd : 1 ≤ d) (hI : Lt WI 368) (hR : Lt WR 368) (k : Lt ((368, 5, 116) :: ((368, 4, 104) :: ((368, 3, 103) :: ((368, 2, 105) :: ((368, 1, 101) :: ((368, 0, 104) :: WI)))))) 369 → Lt ((306, 92, 368) :: WR) 369 → PW X d (MF.take 319) mX11_init (MF.take 243) 1365 [(2, 306)] [] (wr ((368, 5, 116) :: ((368, 4, 104) :: ((368, 3, 103) :: ((368, 2, 105) :: ((368, 1, 101) :: ((368, 0, 104) :: WI))))))) (wr ((306, 92, 368) :: WR)) (MF.take 305) Q) : PW X d (MF.take 319) mX11_init (MF.take 243) 1327 [(2, 306)] [] (wr WI) (wr WR) (MF.take 304) Q := by
  refine P_aload_n (n := 0) (q := 1328) rfl rfl (by decide +kernel) ?_
  refine P_bipush (n := 6) (q := 1330) rfl rfl (by decide +kernel) ?_
  refine T_newc (N := 6) (c := 368) (n := 304) (q := 1332) rfl (by decide) (by decide +kernel) (by decide) (by decide) (hI.up (by decide)) (hR.up (by decide)) rfl (by decide +kernel) ?_
  refine P_dup (Nat.ne_of_beq_eq_false rfl) (q := 1333) rfl (by decide +kernel) ?_
  refine P_iconst (n := 0) (q := 1334) rfl (by decide +kernel) ?_
  refine P_bipush (n := 104) (q := 1336) rfl rfl (by decide +kernel) ?_
  refine T_cast rfl (by decide +kernel) (by decide) (by decide +kernel) (q := 1337) rfl (by decide +kernel) ?_
  refine P_dup (Nat.ne_of_beq_eq_false rfl) (q := 1338) rfl (by decide +kernel) ?_
  refine P_iconst (n := 1) (q := 1339) rfl (by decide +kernel) ?_
  refine P_bipush (n := 101) (q := 1341) rfl rfl (by decide +kernel) ?_
  refine T_cast rfl (by decide +kernel) (by decide) (by decide +kernel) (q := 1342) rfl (by decide +kernel) ?_
  refine P_dup (Nat.ne_of_beq_eq_false rfl) (q := 1343) rfl (by decide +kernel) ?_
  refine P_iconst (n := 2) (q := 1344) rfl (by decide +kernel) ?_
  refine P_bipush (n := 105) (q := 1346) rfl rfl (by decide +kernel) ?_
  refine T_cast rfl (by decide +kernel) (by decide) (by decide +kernel) (q := 1347) rfl (by decide +kernel) ?_
  refine P_dup (Nat.ne_of_beq_eq_false rfl) (q := 1348) rfl (by decide +kernel) ?_
  refine P_iconst (n := 3) (q := 1349) rfl (by decide +kernel) ?_
  refine P_bipush (n := 103) (q := 1351) rfl rfl (by decide +kernel) ?_
  refine T_cast rfl (by decide +kernel) (by decide) (by decide +kernel) (q := 1352) rfl (by decide +kernel) ?_
  refine P_dup (Nat.ne_of_beq_eq_false rfl) (q := 1353) rfl (by decide +kernel) ?_
  refine P_iconst (n := 4) (q := 1354) rfl (by decide +kernel) ?_
  refine P_bipush (n := 104) (q := 1356) rfl rfl (by decide +kernel) ?_
  refine T_cast rfl (by decide +kernel) (by decide) (by decide +kernel) (q := 1357) rfl (by decide +kernel) ?_
  refine P_dup (Nat.ne_of_beq_eq_false rfl) (q := 1358) rfl (by decide +kernel) ?_
  refine P_iconst (n := 5) (q := 1359) rfl (by decide +kernel) ?_
  refine P_bipush (n := 116) (q := 1361) rfl rfl (by decide +kernel) ?_
  refine T_cast rfl (by decide +kernel) (by decide) (by decide +kernel) (q := 1362) rfl (by decide +kernel) ?_
  refine T_putR wX11_378 rfl (fun _ => rfl) (by decide +kernel) (q := 1365) rfl (by decide +kernel) ?_
  exact k (Lt.one (Lt.one (Lt.one (Lt.one (Lt.one (Lt.one (hI.up (by decide)) (by decide)) (by decide)) (by decide)) (by decide)) (by decide)) (by decide)) (Lt.one (hR.up (by decide)) (by decide))
theorem G_Ma_1365 {X : CX} {d : Nat} {WI WR : List (Int × Int × Int)} {Q : PV → PF → PF → Prop} (hd : 1 ≤ d) (hI : Lt WI 369) (hR : Lt WR 369) (k : Lt ((369, 3, 108) :: ((369, 2, 108) :: ((369, 1, 97) :: ((369, 0, 116) :: WI)))) 370 → Lt ((306, 93, 369) :: WR) 370 → PW X d (MF.take 319) mX11_init (MF.take 243) 1392 [(2, 306)] [] (wr ((369, 3, 108) :: ((369, 2, 108) :: ((369, 1, 97) :: ((369, 0, 116) :: WI))))) (wr ((306, 93, 369) :: WR)) (MF.take 306) Q) : PW X d (MF.take 319) mX11_init (MF.take 243) 1365 [(2, 306)] [] (wr WI) (wr WR) (MF.take 305) Q := by
  refine P_aload_n (n := 0) (q := 1366) rfl rfl (by decide +kernel) ?_
  refine P_iconst (n := 4) (q := 1367) rfl (by decide +kernel) ?_
  refine T_newc (N := 4) (c := 369) (n := 305) (q := 1369) rfl (by decide) (by decide +kernel) (by decide) (by decide) (hI.up (by decide)) (hR.up (by decide)) rfl (by decide +kernel) ?_
  refine P_dup (Nat.ne_of_beq_eq_false rfl) (q := 1370) rfl (by decide +kernel) ?_
  refine P_iconst (n := 0) (q := 1371) rfl (by decide +kernel) ?_
  refine P_bipush (n := 116) (q := 1373) rfl rfl (by decide +kernel) ?_
  refine T_cast rfl (by decide +kernel) (by decide) (by decide +kernel) (q := 1374) rfl (by decide +kernel) ?_
  refine P_dup (Nat.ne_of_beq_eq_false rfl) (q := 1375) rfl (by decide +kernel) ?_
  refine P_iconst (n := 1) (q := 1376) rfl (by decide +kernel) ?_
  refine P_bipush (n := 97) (q := 1378) rfl rfl (by decide +kernel) ?_
  refine T_cast rfl (by decide +kernel) (by decide) (by decide +kernel) (q := 1379) rfl (by decide +kernel) ?_
  refine P_dup (Nat.ne_of_beq_eq_false rfl) (q := 1380) rfl (by decide +kernel) ?_
  refine P_iconst (n := 2) (q := 1381) rfl (by decide +kernel) ?_
  refine P_bipush (n := 108) (q := 1383) rfl rfl (by decide +kernel) ?_
  refine T_cast rfl (by decide +kernel) (by decide) (by decide +kernel) (q := 1384) rfl (by decide +kernel) ?_
  refine P_dup (Nat.ne_of_beq_eq_false rfl) (q := 1385) rfl (by decide +kernel) ?_
  refine P_iconst (n := 3) (q := 1386) rfl (by decide +kernel) ?_
  refine P_bipush (n := 108) (q := 1388) rfl rfl (by decide +kernel) ?_
  refine T_cast rfl (by decide +kernel) (by decide) (by decide +kernel) (q := 1389) rfl (by decide +kernel) ?_
  refine T_putR wX11_381 rfl (fun _ => rfl) (by decide +kernel) (q := 1392) rfl (by decide +kernel) ?_
  exact k (Lt.one (Lt.one (Lt.one (Lt.one (hI.up (by decide)) (by decide)) (by decide)) (by decide)) (by decide)) (Lt.one (hR.up (by decide)) (by decide))
theorem G_Ma_1392 {X : CX} {d : Nat} {WI WR : List (Int × Int × Int)} {Q : PV → PF → PF → Prop} (hd : 1 ≤ d) (hI : Lt WI 370) (hR : Lt WR 370) (k : Lt ((370, 3, 101) :: ((370, 2, 99) :: ((370, 1, 97) :: ((370, 0, 112) :: WI)))) 371 → Lt ((306, 94, 370) :: WR) 371 → PW X d (MF.take 319) mX11_init (MF.take 243) 1419 [(2, 306)] [] (wr ((370, 3, 101) :: ((370, 2, 99) :: ((370, 1, 97) :: ((370, 0, 112) :: WI))))) (wr ((306, 94, 370) :: WR)) (MF.take 307) Q) : PW X d (MF.take 319) mX11_init (MF.take 243) 1392 [(2, 306)] [] (wr WI) (wr WR) (MF.take 306) Q := by
  refine P_aload_n (n := 0) (q := 1393) rfl rfl (by decide +kernel) ?_
  refine P_iconst (n := 4) (q := 1394) rfl (by decide +kernel) ?_
  refine T_newc (N := 4) (c := 370) (n := 306) (q := 1396) rfl (by decide) (by decide +kernel) (by decide) (by decide) (hI.up (by decide)) (hR.up (by decide)) rfl (by decide +kernel) ?_
  refine P_dup (Nat.ne_of_beq_eq_false rfl) (q := 1397) rfl (by decide +kernel) ?_
  refine P_iconst (n := 0) (q := 1398) rfl (by decide +kernel) ?_
  refine P_bipush (n := 112) (q := 1400) rfl rfl (by decide +kernel) ?_
  refine T_cast rfl (by decide +kernel) (by decide) (by decide +kernel) (q := 1401) rfl (by decide +kernel) ?_
  refine P_dup (Nat.ne_of_beq_eq_false rfl) (q := 1402) rfl (by decide +kernel) ?_
  refine P_iconst (n := 1) (q := 1403) rfl (by decide +kernel) ?_
  refine P_bipush (n := 97) (q := 1405) rfl rfl (by decide +kernel) ?_
  refine T_cast rfl (by decide +kernel) (by decide) (by decide +kernel) (q := 1406) rfl (by decide +kernel) ?_
  refine P_dup (Nat.ne_of_beq_eq_false rfl) (q := 1407) rfl (by decide +kernel) ?_
  refine P_iconst (n := 2) (q := 1408) rfl (by decide +kernel) ?_
  refine P_bipush (n := 99) (q := 1410) rfl rfl (by decide +kernel) ?_
  refine T_cast rfl (by decide +kernel) (by decide) (by decide +kernel) (q := 1411) rfl (by decide +kernel) ?_
  refine P_dup (Nat.ne_of_beq_eq_false rfl) (q := 1412) rfl (by decide +kernel) ?_
  refine P_iconst (n := 3) (q := 1413) rfl (by decide +kernel) ?_
  refine P_bipush (n := 101) (q := 1415) rfl rfl (by decide +kernel) ?_
  refine T_cast rfl (by decide +kernel) (by decide) (by decide +kernel) (q := 1416) rfl (by decide +kernel) ?_
  refine T_putR wX11_384 rfl (fun _ => rfl) (by decide +kernel) (q := 1419) rfl (by decide +kernel) ?_
  exact k (Lt.one (Lt.one (Lt.one (Lt.one (hI.up (by decide)) (by decide)) (by decide)) (by decide)) (by decide)) (Lt.one (hR.up (by decide)) (by decide))
theorem G_Ma_1419 {X : CX} {d : Nat} {WI WR : List (Int × Int × Int)} {Q : PV → PF → PF → Prop} (hd : 1 ≤ d) (hI : Lt WI 371) (hR : Lt WR 371) (k : Lt ((371, 3, 101) :: ((371, 2, 114) :: ((371, 1, 111) :: ((371, 0, 119) :: WI)))) 372 → Lt ((306, 95, 371) :: WR) 372 → PW X d (MF.take 319) mX11_init (MF.take 243) 1446 [(2, 306)] [] (wr ((371, 3, 101) :: ((371, 2, 114) :: ((371, 1, 111) :: ((371, 0, 119) :: WI))))) (wr ((306, 95, 371) :: WR)) (MF.take 308) Q) : PW X d (MF.take 319) mX11_init (MF.take 243) 1419 [(2, 306)] [] (wr WI) (wr WR) (MF.take 307) Q := by
  refine P_aload_n (n := 0) (q := 1420) rfl rfl (by decide +kernel) ?_
  refine P_iconst (n := 4) (q := 1421) rfl (by decide +kernel) ?_
  refine T_newc (N := 4) (c := 371) (n := 307) (q := 1423) rfl (by decide) (by decide +kernel) (by decide) (by decide) (hI.up (by decide)) (hR.up (by decide)) rfl (by decide +kernel) ?_
  refine P_dup (Nat.ne_of_beq_eq_false rfl) (q := 1424) rfl (by decide +kernel) ?_
  refine P_iconst (n := 0) (q := 1425) rfl (by decide +kernel) ?_
  refine P_bipush (n := 119) (q := 1427) rfl rfl (by decide +kernel) ?_
  refine T_cast rfl (by decide +kernel) (by decide) (by decide +kernel) (q := 1428) rfl (by decide +kernel) ?_
  refine P_dup (Nat.ne_of_beq_eq_false rfl) (q := 1429) rfl (by decide +kernel) ?_
  refine P_iconst (n := 1) (q := 1430) rfl (by decide +kernel) ?_
  refine P_bipush (n := 111) (q := 1432) rfl rfl (by decide +kernel) ?_
  refine T_cast rfl (by decide +kernel) (by decide) (by decide +kernel) (q := 1433) rfl (by decide +kernel) ?_
  refine P_dup (Nat.ne_of_beq_eq_false rfl) (q := 1434) rfl (by decide +kernel) ?_
  refine P_iconst (n := 2) (q := 1435) rfl (by decide +kernel) ?_
  refine P_bipush (n := 114) (q := 1437) rfl rfl (by decide +kernel) ?_
  refine T_cast rfl (by decide +kernel) (by decide) (by decide +kernel) (q := 1438) rfl (by decide +kernel) ?_
  refine P_dup (Nat.ne_of_beq_eq_false rfl) (q := 1439) rfl (by decide +kernel) ?_
  refine P_iconst (n := 3) (q := 1440) rfl (by decide +kernel) ?_
  refine P_bipush (n := 101) (q := 1442) rfl rfl (by decide +kernel) ?_
  refine T_cast rfl (by decide +kernel) (by decide) (by decide +kernel) (q := 1443) rfl (by decide +kernel) ?_
  refine T_putR wX11_387 rfl (fun _ => rfl) (by decide +kernel) (q := 1446) rfl (by decide +kernel) ?_
  exact k (Lt.one (Lt.one (Lt.one (Lt.one (hI.up (by decide)) (by decide)) (by decide)) (by decide)) (by decide)) (Lt.one (hR.up (by decide)) (by decide))
theorem G_Ma_1446 {X : CX} {d : Nat} {WI WR : List (Int × Int × Int)} {Q : PV → PF → PF → Prop} (hd : 1 ≤ d) (hI : Lt WI 372) (hR : Lt WR 372) (k : Lt ((372, 4, 115) :: ((372, 3, 109) :: ((372, 2, 114) :: ((372, 1, 101) :: ((372, 0, 116) :: WI))))) 373 → Lt ((306, 96, 372) :: WR) 373 → PW X d (MF.take 319) mX11_init (MF.take 243) 1478 [(2, 306)] [] (wr ((372, 4, 115) :: ((372, 3, 109) :: ((372, 2, 114) :: ((372, 1, 101) :: ((372, 0, 116) :: WI)))))) (wr ((306, 96, 372) :: WR)) (MF.take 309) Q) : PW X d (MF.take 319) mX11_init (MF.take 243) 1446 [(2, 306)] [] (wr WI) (wr WR) (MF.take 308) Q := by
  refine P_aload_n (n := 0) (q := 1447) rfl rfl (by decide +kernel) ?_
  refine P_iconst (n := 5) (q := 1448) rfl (by decide +kernel) ?_
  refine T_newc (N := 5) (c := 372) (n := 308) (q := 1450) rfl (by decide) (by decide +kernel) (by decide) (by decide) (hI.up (by decide)) (hR.up (by decide)) rfl (by decide +kernel) ?_
  refine P_dup (Nat.ne_of_beq_eq_false rfl) (q := 1451) rfl (by decide +kernel) ?_
  refine P_iconst (n := 0) (q := 1452) rfl (by decide +kernel) ?_
  refine P_bipush (n := 116) (q := 1454) rfl rfl (by decide +kernel) ?_
  refine T_cast rfl (by decide +kernel) (by decide) (by decide +kernel) (q := 1455) rfl (by decide +kernel) ?_
  refine P_dup (Nat.ne_of_beq_eq_false rfl) (q := 1456) rfl (by decide +kernel) ?_
  refine P_iconst (n := 1) (q := 1457) rfl (by decide +kernel) ?_
  refine P_bipush (n := 101) (q := 1459) rfl rfl (by decide +kernel) ?_
  refine T_cast rfl (by decide +kernel) (by decide) (by decide +kernel) (q := 1460) rfl (by decide +kernel) ?_
  refine P_dup (Nat.ne_of_beq_eq_false rfl) (q := 1461) rfl (by decide +kernel) ?_
  refine P_iconst (n := 2) (q := 1462) rfl (by decide +kernel) ?_
  refine P_bipush (n := 114) (q := 1464) rfl rfl (by decide +kernel) ?_
  refine T_cast rfl (by decide +kernel) (by decide) (by decide +kernel) (q := 1465) rfl (by decide +kernel) ?_
  refine P_dup (Nat.ne_of_beq_eq_false rfl) (q := 1466) rfl (by decide +kernel) ?_
  refine P_iconst (n := 3) (q := 1467) rfl (by decide +kernel) ?_
  refine P_bipush (n := 109) (q := 1469) rfl rfl (by decide +kernel) ?_
  refine T_cast rfl (by decide +kernel) (by decide) (by decide +kernel) (q := 1470) rfl (by decide +kernel) ?_
  refine P_dup (Nat.ne_of_beq_eq_false rfl) (q := 1471) rfl (by decide +kernel) ?_
  refine P_iconst (n := 4) (q := 1472) rfl (by decide +kernel) ?_
  refine P_bipush (n := 115) (q := 1474) rfl rfl (by decide +kernel) ?_
  refine T_cast rfl (by decide +kernel) (by decide) (by decide +kernel) (q := 1475) rfl (by decide +kernel) ?_
  refine T_putR wX11_390 rfl (fun _ => rfl) (by decide +kernel) (q := 1478) rfl (by decide +kernel) ?_
  exact k (Lt.one (Lt.one (Lt.one (Lt.one (Lt.one (hI.up (by decide)) (by decide)) (by decide)) (by decide)) (by decide)) (by decide)) (Lt.one (hR.up (by decide)) (by decide))
theorem G_Ma_1478 {X : CX} {d : Nat} {WI WR : List (Int × Int × Int)} {Q : PV → PF → PF → Prop} (hd : 1 ≤ d) (hI : Lt WI 373) (hR : Lt WR 373) (k : Lt ((373, 5, 114) :: ((373, 4, 101) :: ((373, 3, 98) :: ((373, 2, 109) :: ((373, 1, 117) :: ((373, 0, 110) :: WI)))))) 374 → Lt ((306, 97, 373) :: WR) 374 → PW X d (MF.take 319) mX11_init (MF.take 243) 1516 [(2, 306)] [] (wr ((373, 5, 114) :: ((373, 4, 101) :: ((373, 3, 98) :: ((373, 2, 109) :: ((373, 1, 117) :: ((373, 0, 110) :: WI))))))) (wr ((306, 97, 373) :: WR)) (MF.take 310) Q) : PW X d (MF.take 319) mX11_init (MF.take 243) 1478 [(2, 306)] [] (wr WI) (wr WR) (MF.take 309) Q := by
  refine P_aload_n (n := 0) (q := 1479) rfl rfl (by decide +kernel) ?_
  refine P_bipush (n := 6) (q := 1481) rfl rfl (by decide +kernel) ?_
  refine T_newc (N := 6) (c := 373) (n := 309) (q := 1483) rfl (by decide) (by decide +kernel) (by decide) (by decide) (hI.up (by decide)) (hR.up (by decide)) rfl (by decide +kernel) ?_
  refine P_dup (Nat.ne_of_beq_eq_false rfl) (q := 1484) rfl (by decide +kernel) ?_
  refine P_iconst (n := 0) (q := 1485) rfl (by decide +kernel) ?_
  refine P_bipush (n := 110) (q := 1487) rfl rfl (by decide +kernel) ?_
  refine T_cast rfl (by decide +kernel) (by decide) (by decide +kernel) (q := 1488) rfl (by decide +kernel) ?_
  refine P_dup (Nat.ne_of_beq_eq_false rfl) (q := 1489) rfl (by decide +kernel) ?_
  refine P_iconst (n := 1) (q := 1490) rfl (by decide +kernel) ?_
  refine P_bipush (n := 117) (q := 1492) rfl rfl (by decide +kernel) ?_
  refine T_cast rfl (by decide +kernel) (by decide) (by decide +kernel) (q := 1493) rfl (by decide +kernel) ?_
  refine P_dup (Nat.ne_of_beq_eq_false rfl) (q := 1494) rfl (by decide +kernel) ?_
  refine P_iconst (n := 2) (q := 1495) rfl (by decide +kernel) ?_
  refine P_bipush (n := 109) (q := 1497) rfl rfl (by decide +kernel) ?_
  refine T_cast rfl (by decide +kernel) (by decide) (by decide +kernel) (q := 1498) rfl (by decide +kernel) ?_
  refine P_dup (Nat.ne_of_beq_eq_false rfl) (q := 1499) rfl (by decide +kernel) ?_
  refine P_iconst (n := 3) (q := 1500) rfl (by decide +kernel) ?_
  refine P_bipush (n := 98) (q := 1502) rfl rfl (by decide +kernel) ?_
  refine T_cast rfl (by decide +kernel) (by decide) (by decide +kernel) (q := 1503) rfl (by decide +kernel) ?_
  refine P_dup (Nat.ne_of_beq_eq_false rfl) (q := 1504) rfl (by decide +kernel) ?_
  refine P_iconst (n := 4) (q := 1505) rfl (by decide +kernel) ?_
  refine P_bipush (n := 101) (q := 1507) rfl rfl (by decide +kernel) ?_
  refine T_cast rfl (by decide +kernel) (by decide) (by decide +kernel) (q := 1508) rfl (by decide +kernel) ?_
  refine P_dup (Nat.ne_of_beq_eq_false rfl) (q := 1509) rfl (by decide +kernel) ?_
  refine P_iconst (n := 5) (q := 1510) rfl (by decide +kernel) ?_
  refine P_bipush (n := 114) (q := 1512) rfl rfl (by decide +kernel) ?_
  refine T_cast rfl (by decide +kernel) (by decide) (by decide +kernel) (q := 1513) rfl (by decide +kernel) ?_
  refine T_putR wX11_393 rfl (fun _ => rfl) (by decide +kernel) (q := 1516) rfl (by decide +kernel) ?_
  exact k (Lt.one (Lt.one (Lt.one (Lt.one (Lt.one (Lt.one (hI.up (by decide)) (by decide)) (by decide)) (by decide)) (by decide)) (by decide)) (by decide)) (Lt.one (hR.up (by decide)) (by decide))
theorem G_Ma_1516 {X : CX} {d : Nat} {WI WR : List (Int × Int × Int)} {Q : PV → PF → PF → Prop} (hd : 1 ≤ d) (hI : Lt WI 374) (hR : Lt WR 374) (k : Lt ((374, 5, 110) :: ((374, 4, 109) :: ((374, 3, 117) :: ((374, 2, 108) :: ((374, 1, 111) :: ((374, 0, 99) :: WI)))))) 375 → Lt ((306, 98, 374) :: WR) 375 → PW X d (MF.take 319) mX11_init (MF.take 243) 1554 [(2, 306)] [] (wr ((374, 5, 110) :: ((374, 4, 109) :: ((374, 3, 117) :: ((374, 2, 108) :: ((374, 1, 111) :: ((374, 0, 99) :: WI))))))) (wr ((306, 98, 374) :: WR)) (MF.take 311) Q) : PW X d (MF.take 319) mX11_init (MF.take 243) 1516 [(2, 306)] [] (wr WI) (wr WR) (MF.take 310) Q := by
  refine P_aload_n (n := 0) (q := 1517) rfl rfl (by decide +kernel) ?_
  refine P_bipush (n := 6) (q := 1519) rfl rfl (by decide +kernel) ?_
  refine T_newc (N := 6) (c := 374) (n := 310) (q := 1521) rfl (by decide) (by decide +kernel) (by decide) (by decide) (hI.up (by decide)) (hR.up (by decide)) rfl (by decide +kernel) ?_
  refine P_dup (Nat.ne_of_beq_eq_false rfl) (q := 1522) rfl (by decide +kernel) ?_
  refine P_iconst (n := 0) (q := 1523) rfl (by decide +kernel) ?_
  refine P_bipush (n := 99) (q := 1525) rfl rfl (by decide +kernel) ?_
  refine T_cast rfl (by decide +kernel) (by decide) (by decide +kernel) (q := 1526) rfl (by decide +kernel) ?_
  refine P_dup (Nat.ne_of_beq_eq_false rfl) (q := 1527) rfl (by decide +kernel) ?_
  refine P_iconst (n := 1) (q := 1528) rfl (by decide +kernel) ?_
  refine P_bipush (n := 111) (q := 1530) rfl rfl (by decide +kernel) ?_
  refine T_cast rfl (by decide +kernel) (by decide) (by decide +kernel) (q := 1531) rfl (by decide +kernel) ?_
  refine P_dup (Nat.ne_of_beq_eq_false rfl) (q := 1532) rfl (by decide +kernel) ?_
  refine P_iconst (n := 2) (q := 1533) rfl (by decide +kernel) ?_
  refine P_bipush (n := 108) (q := 1535) rfl rfl (by decide +kernel) ?_
  refine T_cast rfl (by decide +kernel) (by decide) (by decide +kernel) (q := 1536) rfl (by decide +kernel) ?_
  refine P_dup (Nat.ne_of_beq_eq_false rfl) (q := 1537) rfl (by decide +kernel) ?_
  refine P_iconst (n := 3) (q := 1538) rfl (by decide +kernel) ?_
  refine P_bipush (n := 117) (q := 1540) rfl rfl (by decide +kernel) ?_
  refine T_cast rfl (by decide +kernel) (by decide) (by decide +kernel) (q := 1541) rfl (by decide +kernel) ?_
  refine P_dup (Nat.ne_of_beq_eq_false rfl) (q := 1542) rfl (by decide +kernel) ?_
  refine P_iconst (n := 4) (q := 1543) rfl (by decide +kernel) ?_
  refine P_bipush (n := 109) (q := 1545) rfl rfl (by decide +kernel) ?_
  refine T_cast rfl (by decide +kernel) (by decide) (by decide +kernel) (q := 1546) rfl (by decide +kernel) ?_
  refine P_dup (Nat.ne_of_beq_eq_false rfl) (q := 1547) rfl (by decide +kernel) ?_
  refine P_iconst (n := 5) (q := 1548) rfl (by decide +kernel) ?_
  refine P_bipush (n := 110) (q := 1550) rfl rfl (by decide +kernel) ?_
  refine T_cast rfl (by decide +kernel) (by decide) (by decide +kernel) (q := 1551) rfl (by decide +kernel) ?_
  refine T_putR wX11_396 rfl (fun _ => rfl) (by decide +kernel) (q := 1554) rfl (by decide +kernel) ?_
  exact k (Lt.one (Lt.one (Lt.one (Lt.one (Lt.one (Lt.one (hI.up (by decide)) (by decide)) (by decide)) (by decide)) (by decide)) (by decide)) (by decide)) (Lt.one (hR.up (by decide)) (by decide))
theorem G_Ma_1554 {X : CX} {d : Nat} {WI WR : List (Int × Int × Int)} {Q : PV → PF → PF → Prop} (hd : 1 ≤ d) (hI : Lt WI 375) (hR : Lt WR 375) (k : Lt ((375, 2, 119) :: ((375, 1, 111) :: ((375, 0, 114) :: WI))) 376 → Lt ((306, 99, 375) :: WR) 376 → PW X d (MF.take 319) mX11_init (MF.take 243) 1576 [(2, 306)] [] (wr ((375, 2, 119) :: ((375, 1, 111) :: ((375, 0, 114) :: WI)))) (wr ((306, 99, 375) :: WR)) (MF.take 312) Q) : PW X d (MF.take 319) mX11_init (MF.take 243) 1554 [(2, 306)] [] (wr WI) (wr WR) (MF.take 311) Q := by
  refine P_aload_n (n := 0) (q := 1555) rfl rfl (by decide +kernel) ?_
  refine P_iconst (n := 3) (q := 1556) rfl (by decide +kernel) ?_
  refine T_newc (N := 3) (c := 375) (n := 311) (q := 1558) rfl (by decide) (by decide +kernel) (by decide) (by decide) (hI.up (by decide)) (hR.up (by decide)) rfl (by decide +kernel) ?_
  refine P_dup (Nat.ne_of_beq_eq_false rfl) (q := 1559) rfl (by decide +kernel) ?_
  refine P_iconst (n := 0) (q := 1560) rfl (by decide +kernel) ?_
  refine P_bipush (n := 114) (q := 1562) rfl rfl (by decide +kernel) ?_
  refine T_cast rfl (by decide +kernel) (by decide) (by decide +kernel) (q := 1563) rfl (by decide +kernel) ?_
  refine P_dup (Nat.ne_of_beq_eq_false rfl) (q := 1564) rfl (by decide +kernel) ?_
  refine P_iconst (n := 1) (q := 1565) rfl (by decide +kernel) ?_
  refine P_bipush (n := 111) (q := 1567) rfl rfl (by decide +kernel) ?_
  refine T_cast rfl (by decide +kernel) (by decide) (by decide +kernel) (q := 1568) rfl (by decide +kernel) ?_
  refine P_dup (Nat.ne_of_beq_eq_false rfl) (q := 1569) rfl (by decide +kernel) ?_
  refine P_iconst (n := 2) (q := 1570) rfl (by decide +kernel) ?_
  refine P_bipush (n := 119) (q := 1572) rfl rfl (by decide +kernel) ?_
  refine T_cast rfl (by decide +kernel) (by decide) (by decide +kernel) (q := 1573) rfl (by decide +kernel) ?_
  refine T_putR wX11_399 rfl (fun _ => rfl) (by decide +kernel) (q := 1576) rfl (by decide +kernel) ?_
  exact k (Lt.one (Lt.one (Lt.one (hI.up (by decide)) (by decide)) (by decide)) (by decide)) (Lt.one (hR.up (by decide)) (by decide))
theorem G_Ma_1576 {X : CX} {d : Nat} {WI WR : List (Int × Int × Int)} {Q : PV → PF → PF → Prop} (hd : 1 ≤ d) (hI : Lt WI 376) (hR : Lt WR 376) (k : Lt ((376, 4, 101) :: ((376, 3, 99) :: ((376, 2, 114) :: ((376, 1, 111) :: ((376, 0, 102) :: WI))))) 377 → Lt ((306, 100, 376) :: WR) 377 → PW X d (MF.take 319) mX11_init (MF.take 243) 1608 [(2, 306)] [] (wr ((376, 4, 101) :: ((376, 3, 99) :: ((376, 2, 114) :: ((376, 1, 111) :: ((376, 0, 102) :: WI)))))) (wr ((306, 100, 376) :: WR)) (MF.take 313) Q) : PW X d (MF.take 319) mX11_init (MF.take 243) 1576 [(2, 306)] [] (wr WI) (wr WR) (MF.take 312) Q := by
  refine P_aload_n (n := 0) (q := 1577) rfl rfl (by decide +kernel) ?_
  refine P_iconst (n := 5) (q := 1578) rfl (by decide +kernel) ?_
  refine T_newc (N := 5) (c := 376) (n := 312) (q := 1580) rfl (by decide) (by decide +kernel) (by decide) (by decide) (hI.up (by decide)) (hR.up (by decide)) rfl (by decide +kernel) ?_
  refine P_dup (Nat.ne_of_beq_eq_false rfl) (q := 1581) rfl (by decide +kernel) ?_
  refine P_iconst (n := 0) (q := 1582) rfl (by decide +kernel) ?_
  refine P_bipush (n := 102) (q := 1584) rfl rfl (by decide +kernel) ?_
  refine T_cast rfl (by decide +kernel) (by decide) (by decide +kernel) (q := 1585) rfl (by decide +kernel) ?_
  refine P_dup (Nat.ne_of_beq_eq_false rfl) (q := 1586) rfl (by decide +kernel) ?_
  refine P_iconst (n := 1) (q := 1587) rfl (by decide +kernel) ?_
  refine P_bipush (n := 111) (q := 1589) rfl rfl (by decide +kernel) ?_
  refine T_cast rfl (by decide +kernel) (by decide) (by decide +kernel) (q := 1590) rfl (by decide +kernel) ?_
  refine P_dup (Nat.ne_of_beq_eq_false rfl) (q := 1591) rfl (by decide +kernel) ?_
  refine P_iconst (n := 2) (q := 1592) rfl (by decide +kernel) ?_
  refine P_bipush (n := 114) (q := 1594) rfl rfl (by decide +kernel) ?_
  refine T_cast rfl (by decide +kernel) (by decide) (by decide +kernel) (q := 1595) rfl (by decide +kernel) ?_
  refine P_dup (Nat.ne_of_beq_eq_false rfl) (q := 1596) rfl (by decide +kernel) ?_
  refine P_iconst (n := 3) (q := 1597) rfl (by decide +kernel) ?_
  refine P_bipush (n := 99) (q := 1599) rfl rfl (by decide +kernel) ?_
  refine T_cast rfl (by decide +kernel) (by decide) (by decide +kernel) (q := 1600) rfl (by decide +kernel) ?_
  refine P_dup (Nat.ne_of_beq_eq_false rfl) (q := 1601) rfl (by decide +kernel) ?_
  refine P_iconst (n := 4) (q := 1602) rfl (by decide +kernel) ?_
  refine P_bipush (n := 101) (q := 1604) rfl rfl (by decide +kernel) ?_
  refine T_cast rfl (by decide +kernel) (by decide) (by decide +kernel) (q := 1605) rfl (by decide +kernel) ?_
  refine T_putR wX11_402 rfl (fun _ => rfl) (by decide +kernel) (q := 1608) rfl (by decide +kernel) ?_
  exact k (Lt.one (Lt.one (Lt.one (Lt.one (Lt.one (hI.up (by decide)) (by decide)) (by decide)) (by decide)) (by decide)) (by decide)) (Lt.one (hR.up (by decide)) (by decide))
theorem G_Ma_1608 {X : CX} {d : Nat} {WI WR : List (Int × Int × Int)} {Q : PV → PF → PF → Prop} (hd : 1 ≤ d) (hI : Lt WI 377) (hR : Lt WR 377) (k : Lt ((377, 3, 115) :: ((377, 2, 116) :: ((377, 1, 101) :: ((377, 0, 103) :: WI)))) 378 → Lt ((306, 101, 377) :: WR) 378 → PW X d (MF.take 319) mX11_init (MF.take 243) 1635 [(2, 306)] [] (wr ((377, 3, 115) :: ((377, 2, 116) :: ((377, 1, 101) :: ((377, 0, 103) :: WI))))) (wr ((306, 101, 377) :: WR)) (MF.take 314) Q) : PW X d (MF.take 319) mX11_init (MF.take 243) 1608 [(2, 306)] [] (wr WI) (wr WR) (MF.take 313) Q := by
  refine P_aload_n (n := 0) (q := 1609) rfl rfl (by decide +kernel) ?_
  refine P_iconst (n := 4) (q := 1610) rfl (by decide +kernel) ?_
  refine T_newc (N := 4) (c := 377) (n := 313) (q := 1612) rfl (by decide) (by decide +kernel) (by decide) (by decide) (hI.up (by decide)) (hR.up (by decide)) rfl (by decide +kernel) ?_
  refine P_dup (Nat.ne_of_beq_eq_false rfl) (q := 1613) rfl (by decide +kernel) ?_
  refine P_iconst (n := 0) (q := 1614) rfl (by decide +kernel) ?_
  refine P_bipush (n := 103) (q := 1616) rfl rfl (by decide +kernel) ?_
  refine T_cast rfl (by decide +kernel) (by decide) (by decide +kernel) (q := 1617) rfl (by decide +kernel) ?_
  refine P_dup (Nat.ne_of_beq_eq_false rfl) (q := 1618) rfl (by decide +kernel) ?_
  refine P_iconst (n := 1) (q := 1619) rfl (by decide +kernel) ?_
  refine P_bipush (n := 101) (q := 1621) rfl rfl (by decide +kernel) ?_
  refine T_cast rfl (by decide +kernel) (by decide) (by decide +kernel) (q := 1622) rfl (by decide +kernel) ?_
  refine P_dup (Nat.ne_of_beq_eq_false rfl) (q := 1623) rfl (by decide +kernel) ?_
  refine P_iconst (n := 2) (q := 1624) rfl (by decide +kernel) ?_
  refine P_bipush (n := 116) (q := 1626) rfl rfl (by decide +kernel) ?_
  refine T_cast rfl (by decide +kernel) (by decide) (by decide +kernel) (q := 1627) rfl (by decide +kernel) ?_
  refine P_dup (Nat.ne_of_beq_eq_false rfl) (q := 1628) rfl (by decide +kernel) ?_
  refine P_iconst (n := 3) (q := 1629) rfl (by decide +kernel) ?_
  refine P_bipush (n := 115) (q := 1631) rfl rfl (by decide +kernel) ?_
  refine T_cast rfl (by decide +kernel) (by decide) (by decide +kernel) (q := 1632) rfl (by decide +kernel) ?_
  refine T_putR wX11_405 rfl (fun _ => rfl) (by decide +kernel) (q := 1635) rfl (by decide +kernel) ?_
  exact k (Lt.one (Lt.one (Lt.one (Lt.one (hI.up (by decide)) (by decide)) (by decide)) (by decide)) (by decide)) (Lt.one (hR.up (by decide)) (by decide))
theorem G_Ma_1635 {X : CX} {d : Nat} {WI WR : List (Int × Int × Int)} {Q : PV → PF → PF → Prop} (hd : 1 ≤ d) (hI : Lt WI 378) (hR : Lt WR 378) (k : Lt ((378, 3, 110) :: ((378, 2, 105) :: ((378, 1, 112) :: ((378, 0, 115) :: WI)))) 379 → Lt ((306, 102, 378) :: WR) 379 → PW X d (MF.take 319) mX11_init (MF.take 243) 1662 [(2, 306)] [] (wr ((378, 3, 110) :: ((378, 2, 105) :: ((378, 1, 112) :: ((378, 0, 115) :: WI))))) (wr ((306, 102, 378) :: WR)) (MF.take 315) Q) : PW X d (MF.take 319) mX11_init (MF.take 243) 1635 [(2, 306)] [] (wr WI) (wr WR) (MF.take 314) Q := by
  refine P_aload_n (n := 0) (q := 1636) rfl rfl (by decide +kernel) ?_
  refine P_iconst (n := 4) (q := 1637) rfl (by decide +kernel) ?_
  refine T_newc (N := 4) (c := 378) (n := 314) (q := 1639) rfl (by decide) (by decide +kernel) (by decide) (by decide) (hI.up (by decide)) (hR.up (by decide)) rfl (by decide +kernel) ?_
  refine P_dup (Nat.ne_of_beq_eq_false rfl) (q := 1640) rfl (by decide +kernel) ?_
  refine P_iconst (n := 0) (q := 1641) rfl (by decide +kernel) ?_
  refine P_bipush (n := 115) (q := 1643) rfl rfl (by decide +kernel) ?_
  refine T_cast rfl (by decide +kernel) (by decide) (by decide +kernel) (q := 1644) rfl (by decide +kernel) ?_
  refine P_dup (Nat.ne_of_beq_eq_false rfl) (q := 1645) rfl (by decide +kernel) ?_
  refine P_iconst (n := 1) (q := 1646) rfl (by decide +kernel) ?_
  refine P_bipush (n := 112) (q := 1648) rfl rfl (by decide +kernel) ?_
  refine T_cast rfl (by decide +kernel) (by decide) (by decide +kernel) (q := 1649) rfl (by decide +kernel) ?_
  refine P_dup (Nat.ne_of_beq_eq_false rfl) (q := 1650) rfl (by decide +kernel) ?_
  refine P_iconst (n := 2) (q := 1651) rfl (by decide +kernel) ?_
  refine P_bipush (n := 105) (q := 1653) rfl rfl (by decide +kernel) ?_
  refine T_cast rfl (by decide +kernel) (by decide) (by decide +kernel) (q := 1654) rfl (by decide +kernel) ?_
  refine P_dup (Nat.ne_of_beq_eq_false rfl) (q := 1655) rfl (by decide +kernel) ?_
  refine P_iconst (n := 3) (q := 1656) rfl (by decide +kernel) ?_
  refine P_bipush (n := 110) (q := 1658) rfl rfl (by decide +kernel) ?_
  refine T_cast rfl (by decide +kernel) (by decide) (by decide +kernel) (q := 1659) rfl (by decide +kernel) ?_
  refine T_putR wX11_408 rfl (fun _ => rfl) (by decide +kernel) (q := 1662) rfl (by decide +kernel) ?_
  exact k (Lt.one (Lt.one (Lt.one (Lt.one (hI.up (by decide)) (by decide)) (by decide)) (by decide)) (by decide)) (Lt.one (hR.up (by decide)) (by decide))
theorem G_Ma_1662 {X : CX} {d : Nat} {WI WR : List (Int × Int × Int)} {Q : PV → PF → PF → Prop} (hd : 1 ≤ d) (hI : Lt WI 379) (hR : Lt WR 379) (k : Lt WI 380 → Lt ((306, 103, 379) :: WR) 380 → PW X d (MF.take 319) mX11_init (MF.take 243) 1671 [(2, 306)] [] (wr WI) (wr ((306, 103, 379) :: WR)) (MF.take 316) Q) : PW X d (MF.take 319) mX11_init (MF.take 243) 1662 [(2, 306)] [] (wr WI) (wr WR) (MF.take 315) Q := by
  refine P_aload_n (n := 0) (q := 1663) rfl rfl (by decide +kernel) ?_
  refine P_sipush (n := 1700) (q := 1666) rfl rfl (by decide +kernel) ?_
  refine T_newi (N := 1700) (c := 379) (n := 315) (q := 1668) rfl (by decide) (by decide +kernel) (by decide) (by decide) (hI.up (by decide)) (hR.up (by decide)) rfl (by decide +kernel) ?_
  refine T_putR wX11_257 rfl (fun _ => rfl) (by decide +kernel) (q := 1671) rfl (by decide +kernel) ?_
  exact k (hI.up (by decide)) (Lt.one (hR.up (by decide)) (by decide))
theorem G_Ma_1671 {X : CX} {d : Nat} {WI WR : List (Int × Int × Int)} {Q : PV → PF → PF → Prop} (hd : 1 ≤ d) (hI : Lt WI 380) (hR : Lt WR 380) (k : Lt WI 381 → Lt ((306, 105, 380) :: WR) 381 → PW X d (MF.take 319) mX11_init (MF.take 243) 1680 [(2, 306)] [] (wr WI) (wr ((306, 105, 380) :: WR)) (MF.take 317) Q) : PW X d (MF.take 319) mX11_init (MF.take 243) 1671 [(2, 306)] [] (wr WI) (wr WR) (MF.take 316) Q := by
  refine P_aload_n (n := 0) (q := 1672) rfl rfl (by decide +kernel) ?_
  refine P_sipush (n := 1700) (q := 1675) rfl rfl (by decide +kernel) ?_
  refine T_newi (N := 1700) (c := 380) (n := 316) (q := 1677) rfl (by decide) (by decide +kernel) (by decide) (by decide) (hI.up (by decide)) (hR.up (by decide)) rfl (by decide +kernel) ?_
  refine T_putR wX11_411 rfl (fun _ => rfl) (by decide +kernel) (q := 1680) rfl (by decide +kernel) ?_
  exact k (hI.up (by decide)) (Lt.one (hR.up (by decide)) (by decide))
theorem G_Ma_1680 {X : CX} {d : Nat} {WI WR : List (Int × Int × Int)} {Q : PV → PF → PF → Prop} (hd : 1 ≤ d) (hI : Lt WI 381) (hR : Lt WR 381) (k : Lt WI 382 → Lt ((306, 109, 381) :: WR) 382 → PW X d (MF.take 319) mX11_init (MF.take 243) 1689 [(2, 306)] [] (wr WI) (wr ((306, 109, 381) :: WR)) (MF.take 318) Q) : PW X d (MF.take 319) mX11_init (MF.take 243) 1680 [(2, 306)] [] (wr WI) (wr WR) (MF.take 317) Q := by
  refine P_aload_n (n := 0) (q := 1681) rfl rfl (by decide +kernel) ?_
  refine P_sipush (n := 1700) (q := 1684) rfl rfl (by decide +kernel) ?_
  refine T_newl (N := 1700) (c := 381) (n := 317) (q := 1686) rfl (by decide) (by decide +kernel) (by decide) (by decide) (hI.up (by decide)) (hR.up (by decide)) rfl (by decide +kernel) ?_
  refine T_putR wX11_414 rfl (fun _ => rfl) (by decide +kernel) (q := 1689) rfl (by decide +kernel) ?_
  exact k (hI.up (by decide)) (Lt.one (hR.up (by decide)) (by decide))
theorem G_Ma_1689 {X : CX} {d : Nat} {WI WR : List (Int × Int × Int)} {Q : PV → PF → PF → Prop} (hd : 1 ≤ d) (hI : Lt WI 382) (hR : Lt WR 382) (k : Lt WI 383 → Lt ((306, 113, 382) :: WR) 383 → PW X d (MF.take 319) mX11_init (MF.take 243) 1697 [(2, 306)] [] (wr WI) (wr ((306, 113, 382) :: WR)) (MF.take 319) Q) : PW X d (MF.take 319) mX11_init (MF.take 243) 1689 [(2, 306)] [] (wr WI) (wr WR) (MF.take 318) Q := by
  refine P_aload_n (n := 0) (q := 1690) rfl rfl (by decide +kernel) ?_
  refine P_bipush (n := 41) (q := 1692) rfl rfl (by decide +kernel) ?_
  refine T_newi (N := 41) (c := 382) (n := 318) (q := 1694) rfl (by decide) (by decide +kernel) (by decide) (by decide) (hI.up (by decide)) (hR.up (by decide)) rfl (by decide +kernel) ?_
  refine T_putR wX11_417 rfl (fun _ => rfl) (by decide +kernel) (q := 1697) rfl (by decide +kernel) ?_
  exact k (hI.up (by decide)) (Lt.one (hR.up (by decide)) (by decide))
theorem G_Ma_1697 {X : CX} {d : Nat} {WI WR : List (Int × Int × Int)} {Q : PV → PF → PF → Prop} (hd : 1 ≤ d) (hI : Lt WI 383) (hR : Lt WR 383) (h1 : wr WR 306 59 = 348) (k : Lt ((348, 1, (-1)) :: WI) 383 → Lt WR 383 → PW X d (MF.take 319) mX11_init (MF.take 243) 1704 [(2, 306)] [] (wr ((348, 1, (-1)) :: WI)) (wr WR) (MF.take 319) Q) : PW X d (MF.take 319) mX11_init (MF.take 243) 1697 [(2, 306)] [] (wr WI) (wr WR) (MF.take 319) Q := by
  refine P_aload_n (n := 0) (q := 1698) rfl rfl (by decide +kernel) ?_
  refine B_getfR fX11_303 (by decide +kernel) h1 (q := 1701) rfl (by decide +kernel) ?_
  refine P_iconst (n := 1) (q := 1702) rfl (by decide +kernel) ?_
  refine P_iconst (n := -1) (q := 1703) rfl (by decide +kernel) ?_
  refine T_iast (by decide +kernel) (by decide) (by decide +kernel) (q := 1704) rfl (by decide +kernel) ?_
  exact k (Lt.one (hI.up (by decide)) (by decide)) (hR.up (by decide))
set_option maxRecDepth 100000 in
def n_NoonHatModel_306_I (W : List (Int × Int × Int)) : List (Int × Int × Int) := ((348, 1, (-1)) :: ((378, 3, 110) :: ((378, 2, 105) :: ((378, 1, 112) :: ((378, 0, 115) :: ((377, 3, 115) :: ((377, 2, 116) :: ((377, 1, 101) :: ((377, 0, 103) :: ((376, 4, 101) :: ((376, 3, 99) :: ((376, 2, 114) :: ((376, 1, 111) :: ((376, 0, 102) :: ((375, 2, 119) :: ((375, 1, 111) :: ((375, 0, 114) :: ((374, 5, 110) :: ((374, 4, 109) :: ((374, 3, 117) :: ((374, 2, 108) :: ((374, 1, 111) :: ((374, 0, 99) :: ((373, 5, 114) :: ((373, 4, 101) :: ((373, 3, 98) :: ((373, 2, 109) :: ((373, 1, 117) :: ((373, 0, 110) :: ((372, 4, 115) :: ((372, 3, 109) :: ((372, 2, 114) :: ((372, 1, 101) :: ((372, 0, 116) :: ((371, 3, 101) :: ((371, 2, 114) :: ((371, 1, 111) :: ((371, 0, 119) :: ((370, 3, 101) :: ((370, 2, 99) :: ((370, 1, 97) :: ((370, 0, 112) :: ((369, 3, 108) :: ((369, 2, 108) :: ((369, 1, 97) :: ((369, 0, 116) :: ((368, 5, 116) :: ((368, 4, 104) :: ((368, 3, 103) :: ((368, 2, 105) :: ((368, 1, 101) :: ((368, 0, 104) :: ((367, 3, 110) :: ((367, 2, 111) :: ((367, 1, 111) :: ((367, 0, 110) :: ((366, 2, 120) :: ((366, 1, 97) :: ((366, 0, 109) :: ((365, 2, 110) :: ((365, 1, 105) :: ((365, 0, 109) :: ((364, 2, 108) :: ((364, 1, 108) :: ((364, 0, 97) :: ((363, 1, 114) :: ((363, 0, 111) :: ((362, 2, 100) :: ((362, 1, 110) :: ((362, 0, 97) :: ((361, 2, 116) :: ((361, 1, 111) :: ((361, 0, 110) :: ((360, 4, 116) :: ((360, 3, 115) :: ((360, 2, 97) :: ((360, 1, 101) :: ((360, 0, 108) :: ((359, 3, 116) :: ((359, 2, 115) :: ((359, 1, 111) :: ((359, 0, 109) :: ((358, 4, 108) :: ((358, 3, 97) :: ((358, 2, 116) :: ((358, 1, 111) :: ((358, 0, 116) :: ((357, 4, 110) :: ((357, 3, 101) :: ((357, 2, 116) :: ((357, 1, 102) :: ((357, 0, 111) :: ((356, 3, 116) :: ((356, 2, 115) :: ((356, 1, 97) :: ((356, 0, 108) :: ((355, 4, 116) :: ((355, 3, 115) :: ((355, 2, 114) :: ((355, 1, 105) :: ((355, 0, 102) :: ((306, 78, 1) :: ((345, 3, (-1)) :: ((345, 2, (-1)) :: ((345, 1, (-1)) :: ((345, 0, (-1)) :: ((338, 2, 120) :: ((338, 1, 97) :: ((338, 0, 109) :: ((337, 2, 110) :: ((337, 1, 105) :: ((337, 0, 109) :: ((336, 2, 108) :: ((336, 1, 108) :: ((336, 0, 97) :: ((335, 2, 116) :: ((335, 1, 111) :: ((335, 0, 110) :: ((334, 2, 100) :: ((334, 1, 110) :: ((334, 0, 97) :: ((333, 1, 114) :: ((333, 0, 111) :: ((332, 5, 114) :: ((332, 4, 101) :: ((332, 3, 98) :: ((332, 2, 109) :: ((332, 1, 117) :: ((332, 0, 110) :: ((331, 3, 115) :: ((331, 2, 116) :: ((331, 1, 101) :: ((331, 0, 103) :: ((330, 2, 119) :: ((330, 1, 111) :: ((330, 0, 114) :: ((329, 5, 110) :: ((329, 4, 109) :: ((329, 3, 117) :: ((329, 2, 108) :: ((329, 1, 111) :: ((329, 0, 99) :: ((328, 4, 115) :: ((328, 3, 109) :: ((328, 2, 114) :: ((328, 1, 101) :: ((328, 0, 116) :: ((327, 3, 101) :: ((327, 2, 114) :: ((327, 1, 111) :: ((327, 0, 119) :: ((326, 5, 116) :: ((326, 4, 104) :: ((326, 3, 103) :: ((326, 2, 105) :: ((326, 1, 101) :: ((326, 0, 104) :: ((325, 3, 110) :: ((325, 2, 111) :: ((325, 1, 111) :: ((325, 0, 110) :: ((324, 3, 116) :: ((324, 2, 115) :: ((324, 1, 117) :: ((324, 0, 103) :: ((323, 2, 121) :: ((323, 1, 97) :: ((323, 0, 109) :: ((322, 4, 115) :: ((322, 3, 100) :: ((322, 2, 110) :: ((322, 1, 105) :: ((322, 0, 119) :: ((321, 3, 108) :: ((321, 2, 108) :: ((321, 1, 97) :: ((321, 0, 119) :: ((320, 4, 101) :: ((320, 3, 99) :: ((320, 2, 114) :: ((320, 1, 111) :: ((320, 0, 102) :: ((319, 3, 110) :: ((319, 2, 105) :: ((319, 1, 112) :: ((319, 0, 115) :: ((318, 3, 115) :: ((318, 2, 101) :: ((318, 1, 111) :: ((318, 0, 100) :: ((317, 3, 101) :: ((317, 2, 99) :: ((317, 1, 97) :: ((317, 0, 112) :: ((316, 3, 108) :: ((316, 2, 108) :: ((316, 1, 97) :: ((316, 0, 116) :: ((315, 1, 116) :: ((315, 0, 97) :: ((314, 5, 110) :: ((314, 4, 111) :: ((314, 3, 115) :: ((314, 2, 114) :: ((314, 1, 101) :: ((314, 0, 112) :: ((313, 2, 119) :: ((313, 1, 97) :: ((313, 0, 108) :: ((312, 3, 104) :: ((312, 2, 103) :: ((312, 1, 105) :: ((312, 0, 104) :: ((311, 4, 114) :: ((311, 3, 101) :: ((311, 2, 119) :: ((311, 1, 111) :: ((311, 0, 116) :: ((310, 1, 121) :: ((310, 0, 98) :: ((309, 5, 101) :: ((309, 4, 114) :: ((309, 3, 97) :: ((309, 2, 117) :: ((309, 1, 113) :: ((309, 0, 115) :: ((306, 8, (-1)) :: W)))))))))))))))))))))))))))))))))))))))))))))))))))))))))))))))))))))))))))))))))))))))))))))))))))))))))))))))))))))))))))))))))))))))))))))))))))))))))))))))))))))))))))))))))))))))))))))))))))))))))))))))))))))))))))))))))))
set_option maxRecDepth 100000 in
def n_NoonHatModel_306_R (W : List (Int × Int × Int)) : List (Int × Int × Int) := ((306, 113, 382) :: ((306, 109, 381) :: ((306, 105, 380) :: ((306, 103, 379) :: ((306, 102, 378) :: ((306, 101, 377) :: ((306, 100, 376) :: ((306, 99, 375) :: ((306, 98, 374) :: ((306, 97, 373) :: ((306, 96, 372) :: ((306, 95, 371) :: ((306, 94, 370) :: ((306, 93, 369) :: ((306, 92, 368) :: ((306, 91, 367) :: ((306, 90, 366) :: ((306, 89, 365) :: ((306, 88, 364) :: ((306, 87, 363) :: ((306, 86, 362) :: ((306, 85, 361) :: ((306, 84, 360) :: ((306, 83, 359) :: ((306, 82, 358) :: ((306, 81, 357) :: ((306, 80, 356) :: ((306, 79, 355) :: ((306, 75, 354) :: ((306, 74, 353) :: ((306, 68, 352) :: ((306, 67, 351) :: ((306, 63, 350) :: ((306, 60, 349) :: ((306, 59, 348) :: ((306, 52, 347) :: ((306, 51, 346) :: ((306, 50, 345) :: ((306, 47, 344) :: ((306, 46, 343) :: ((306, 45, 342) :: ((306, 44, 341) :: ((306, 43, 340) :: ((306, 42, 339) :: ((306, 40, 338) :: ((306, 39, 337) :: ((306, 38, 336) :: ((306, 37, 335) :: ((306, 36, 334) :: ((306, 35, 333) :: ((306, 34, 332) :: ((306, 33, 331) :: ((306, 32, 330) :: ((306, 31, 329) :: ((306, 30, 328) :: ((306, 29, 327) :: ((306, 28, 326) :: ((306, 27, 325) :: ((306, 26, 324) :: ((306, 25, 323) :: ((306, 24, 322) :: ((306, 23, 321) :: ((306, 22, 320) :: ((306, 21, 319) :: ((306, 20, 318) :: ((306, 19, 317) :: ((306, 18, 316) :: ((306, 17, 315) :: ((306, 16, 314) :: ((306, 15, 313) :: ((306, 14, 312) :: ((306, 13, 311) :: ((306, 12, 310) :: ((306, 11, 309) :: ((306, 9, 308) :: ((306, 0, 307) :: W))))))))))))))))))))))))))))))))))))))))))))))))))))))))))))))))))))))))))))
set_option maxRecDepth 100000 in
set_option maxHeartbeats 4000000 in
theorem n_NoonHatModel_306 {X : CX} {WI WR : List (Int × Int × Int)} (hI : Lt WI 307) (hR : Lt WR 307) : Callee X 1 mX11_init (MF.take 243) (MF.take 319) [(2, 306)] (wr WI) (wr WR) (fun _ I' R' => I' = wr (n_NoonHatModel_306_I WI) ∧ R' = wr (n_NoonHatModel_306_R WR)) := by
  refine callee_b (by decide +kernel) (Nat.le_of_ble_eq_true rfl) rfl ?_
  refine G_Ma_0 (Nat.le_refl _) hI hR ?_
  clear hI hR
  intro hI hR
  refine G_Ma_13 (Nat.le_refl _) hI hR ?_
  clear hI hR
  intro hI hR
  refine G_Ma_18 (Nat.le_refl _) hI hR ?_
  clear hI hR
  intro hI hR
  refine G_Ma_26 (Nat.le_refl _) hI hR ?_
  clear hI hR
  intro hI hR
  refine G_Ma_64 (Nat.le_refl _) hI hR ?_
  clear hI hR
  intro hI hR
  refine G_Ma_81 (Nat.le_refl _) hI hR ?_
  clear hI hR
  intro hI hR
  refine G_Ma_113 (Nat.le_refl _) hI hR ?_
  clear hI hR
  intro hI hR
  refine G_Ma_140 (Nat.le_refl _) hI hR ?_
  clear hI hR
  intro hI hR
  refine G_Ma_162 (Nat.le_refl _) hI hR ?_
  clear hI hR
  intro hI hR
  refine G_Ma_200 (Nat.le_refl _) hI hR ?_
  clear hI hR
  intro hI hR
  refine G_Ma_217 (Nat.le_refl _) hI hR ?_
  clear hI hR
  intro hI hR
  refine G_Ma_244 (Nat.le_refl _) hI hR ?_
  clear hI hR
  intro hI hR
  refine G_Ma_271 (Nat.le_refl _) hI hR ?_
  clear hI hR
  intro hI hR
  refine G_Ma_298 (Nat.le_refl _) hI hR ?_
  clear hI hR
  intro hI hR
  refine G_Ma_325 (Nat.le_refl _) hI hR ?_
  clear hI hR
  intro hI hR
  refine G_Ma_357 (Nat.le_refl _) hI hR ?_
  clear hI hR
  intro hI hR
  refine G_Ma_384 (Nat.le_refl _) hI hR ?_
  clear hI hR
  intro hI hR
  refine G_Ma_416 (Nat.le_refl _) hI hR ?_
  clear hI hR
  intro hI hR
  refine G_Ma_438 (Nat.le_refl _) hI hR ?_
  clear hI hR
  intro hI hR
  refine G_Ma_465 (Nat.le_refl _) hI hR ?_
  clear hI hR
  intro hI hR
  refine G_Ma_492 (Nat.le_refl _) hI hR ?_
  clear hI hR
  intro hI hR
  refine G_Ma_530 (Nat.le_refl _) hI hR ?_
  clear hI hR
  intro hI hR
  refine G_Ma_557 (Nat.le_refl _) hI hR ?_
  clear hI hR
  intro hI hR
  refine G_Ma_589 (Nat.le_refl _) hI hR ?_
  clear hI hR
  intro hI hR
  refine G_Ma_627 (Nat.le_refl _) hI hR ?_
  clear hI hR
  intro hI hR
  refine G_Ma_649 (Nat.le_refl _) hI hR ?_
  clear hI hR
  intro hI hR
  refine G_Ma_676 (Nat.le_refl _) hI hR ?_
  clear hI hR
  intro hI hR
  refine G_Ma_714 (Nat.le_refl _) hI hR ?_
  clear hI hR
  intro hI hR
  refine G_Ma_731 (Nat.le_refl _) hI hR ?_
  clear hI hR
  intro hI hR
  refine G_Ma_753 (Nat.le_refl _) hI hR ?_
  clear hI hR
  intro hI hR
  refine G_Ma_775 (Nat.le_refl _) hI hR ?_
  clear hI hR
  intro hI hR
  refine G_Ma_797 (Nat.le_refl _) hI hR ?_
  clear hI hR
  intro hI hR
  refine G_Ma_819 (Nat.le_refl _) hI hR ?_
  clear hI hR
  intro hI hR
  refine G_Ma_841 (Nat.le_refl _) hI hR ?_
  clear hI hR
  intro hI hR
  refine G_Ma_849 (Nat.le_refl _) hI hR ?_
  clear hI hR
  intro hI hR
  refine G_Ma_857 (Nat.le_refl _) hI hR ?_
  clear hI hR
  intro hI hR
  refine G_Ma_865 (Nat.le_refl _) hI hR ?_
  clear hI hR
  intro hI hR
  refine G_Ma_873 (Nat.le_refl _) hI hR ?_
  clear hI hR
  intro hI hR
  refine G_Ma_881 (Nat.le_refl _) hI hR ?_
  clear hI hR
  intro hI hR
  refine G_Ma_889 (Nat.le_refl _) hI hR ?_
  clear hI hR
  intro hI hR
  refine G_Ma_912 (Nat.le_refl _) hI hR ?_
  clear hI hR
  intro hI hR
  refine G_Ma_919 (Nat.le_refl _) hI hR ?_
  clear hI hR
  intro hI hR
  refine G_Ma_928 (Nat.le_refl _) hI hR ?_
  clear hI hR
  intro hI hR
  refine G_Ma_937 (Nat.le_refl _) hI hR ?_
  clear hI hR
  intro hI hR
  refine G_Ma_945 (Nat.le_refl _) hI hR ?_
  clear hI hR
  intro hI hR
  refine G_Ma_953 (Nat.le_refl _) hI hR ?_
  clear hI hR
  intro hI hR
  refine G_Ma_961 (Nat.le_refl _) hI hR ?_
  clear hI hR
  intro hI hR
  refine G_Ma_969 (Nat.le_refl _) hI hR ?_
  clear hI hR
  intro hI hR
  refine G_Ma_977 (Nat.le_refl _) hI hR ?_
  clear hI hR
  intro hI hR
  refine G_Ma_986 (Nat.le_refl _) hI hR ?_
  clear hI hR
  intro hI hR
  refine G_Ma_991 (Nat.le_refl _) hI hR ?_
  clear hI hR
  intro hI hR
  refine G_Ma_1023 (Nat.le_refl _) hI hR ?_
  clear hI hR
  intro hI hR
  refine G_Ma_1050 (Nat.le_refl _) hI hR ?_
  clear hI hR
  intro hI hR
  refine G_Ma_1082 (Nat.le_refl _) hI hR ?_
  clear hI hR
  intro hI hR
  refine G_Ma_1114 (Nat.le_refl _) hI hR ?_
  clear hI hR
  intro hI hR
  refine G_Ma_1141 (Nat.le_refl _) hI hR ?_
  clear hI hR
  intro hI hR
  refine G_Ma_1173 (Nat.le_refl _) hI hR ?_
  clear hI hR
  intro hI hR
  refine G_Ma_1195 (Nat.le_refl _) hI hR ?_
  clear hI hR
  intro hI hR
  refine G_Ma_1217 (Nat.le_refl _) hI hR ?_
  clear hI hR
  intro hI hR
  refine G_Ma_1234 (Nat.le_refl _) hI hR ?_
  clear hI hR
  intro hI hR
  refine G_Ma_1256 (Nat.le_refl _) hI hR ?_
  clear hI hR
  intro hI hR
  refine G_Ma_1278 (Nat.le_refl _) hI hR ?_
  clear hI hR
  intro hI hR
  refine G_Ma_1300 (Nat.le_refl _) hI hR ?_
  clear hI hR
  intro hI hR
  refine G_Ma_1327 (Nat.le_refl _) hI hR ?_
  clear hI hR
  intro hI hR
  refine G_Ma_1365 (Nat.le_refl _) hI hR ?_
  clear hI hR
  intro hI hR
  refine G_Ma_1392 (Nat.le_refl _) hI hR ?_
  clear hI hR
  intro hI hR
  refine G_Ma_1419 (Nat.le_refl _) hI hR ?_
  clear hI hR
  intro hI hR
  refine G_Ma_1446 (Nat.le_refl _) hI hR ?_
  clear hI hR
  intro hI hR
  refine G_Ma_1478 (Nat.le_refl _) hI hR ?_
  clear hI hR
  intro hI hR
  refine G_Ma_1516 (Nat.le_refl _) hI hR ?_
  clear hI hR
  intro hI hR
  refine G_Ma_1554 (Nat.le_refl _) hI hR ?_
  clear hI hR
  intro hI hR
  refine G_Ma_1576 (Nat.le_refl _) hI hR ?_
  clear hI hR
  intro hI hR
  refine G_Ma_1608 (Nat.le_refl _) hI hR ?_
  clear hI hR
  intro hI hR
  refine G_Ma_1635 (Nat.le_refl _) hI hR ?_
  clear hI hR
  intro hI hR
  refine G_Ma_1662 (Nat.le_refl _) hI hR ?_
  clear hI hR
  intro hI hR
  refine G_Ma_1671 (Nat.le_refl _) hI hR ?_
  clear hI hR
  intro hI hR
  refine G_Ma_1680 (Nat.le_refl _) hI hR ?_
  clear hI hR
  intro hI hR
  refine G_Ma_1689 (Nat.le_refl _) hI hR ?_
  clear hI hR
  intro hI hR
  refine G_Ma_1697 (Nat.le_refl _) hI hR ((wr_j (by decide)).trans ((wr_j (by decide)).trans ((wr_j (by decide)).trans ((wr_j (by decide)).trans ((wr_j (by decide)).trans ((wr_j (by decide)).trans ((wr_j (by decide)).trans ((wr_j (by decide)).trans ((wr_j (by decide)).trans ((wr_j (by decide)).trans ((wr_j (by decide)).trans ((wr_j (by decide)).trans ((wr_j (by decide)).trans ((wr_j (by decide)).trans ((wr_j (by decide)).trans ((wr_j (by decide)).trans ((wr_j (by decide)).trans ((wr_j (by decide)).trans ((wr_j (by decide)).trans ((wr_j (by decide)).trans ((wr_j (by decide)).trans ((wr_j (by decide)).trans ((wr_j (by decide)).trans ((wr_j (by decide)).trans ((wr_j (by decide)).trans ((wr_j (by decide)).trans ((wr_j (by decide)).trans ((wr_j (by decide)).trans ((wr_j (by decide)).trans ((wr_j (by decide)).trans ((wr_j (by decide)).trans ((wr_j (by decide)).trans ((wr_j (by decide)).trans ((wr_j (by decide)).trans (wr_at))))))))))))))))))))))))))))))))))) ?_
  clear hI hR
  intro hI hR
  exact P_vret rfl (by decide +kernel) ⟨rfl, rfl⟩
