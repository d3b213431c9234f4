/-! ===== the law's own stretches ===== -/
def mL_law : MD := (yL_law, cL_law, 4, (some .boolean))
/-- in the law: nothing stood at its entry, both objects are made -/
abbrev PL (X : CX) (d : Nat) (md : MD) (pc : Nat) (ls st : List PV) (I R : PF) (Q : PV → PF → PF → Prop) : Prop := PW X d MF md [] pc ls st I R MF Q
theorem oX10_status : COV mX10_status 1 9 := ⟨⟨⟨by decide +kernel, by decide +kernel, by decide +kernel⟩, by decide, tGp5 157 rfl rfl, tGp1 1 rfl rfl⟩, tGp5 155 rfl rfl, tGp5 156 rfl rfl, by decide, _, _, rfl⟩
theorem oX11_status : COV mX11_status 1 10 := ⟨⟨⟨by decide +kernel, by decide +kernel, by decide +kernel⟩, by decide, tGp9 69 rfl rfl, tGp1 13 rfl rfl⟩, tGp9 67 rfl rfl, tGp9 68 rfl rfl, by decide, _, _, rfl⟩
theorem oX10_on : COV mX10_on 0 9 := ⟨⟨⟨by decide +kernel, by decide +kernel, by decide +kernel⟩, by decide, tGp5 144 rfl rfl, tGp1 1 rfl rfl⟩, tGp5 142 rfl rfl, tGp5 143 rfl rfl, by decide, _, _, rfl⟩
theorem oX11_on : COV mX11_on 0 10 := ⟨⟨⟨by decide +kernel, by decide +kernel, by decide +kernel⟩, by decide, tGp9 57 rfl rfl, tGp1 13 rfl rfl⟩, tGp9 55 rfl rfl, tGp9 56 rfl rfl, by decide, _, _, rfl⟩
theorem oX10_octet : COV mX10_octet 1 9 := ⟨⟨⟨by decide +kernel, by decide +kernel, by decide +kernel⟩, by decide, tGp5 140 rfl rfl, tGp1 1 rfl rfl⟩, tGp5 138 rfl rfl, tGp5 139 rfl rfl, by decide, _, _, rfl⟩
theorem oX11_octet : COV mX11_octet 1 10 := ⟨⟨⟨by decide +kernel, by decide +kernel, by decide +kernel⟩, by decide, tGp9 53 rfl rfl, tGp1 13 rfl rfl⟩, tGp9 51 rfl rfl, tGp9 52 rfl rfl, by decide, _, _, rfl⟩
theorem oX10_image : COV mX10_image 0 9 := ⟨⟨⟨by decide +kernel, by decide +kernel, by decide +kernel⟩, by decide, tGp5 133 rfl rfl, tGp1 1 rfl rfl⟩, tGp5 131 rfl rfl, tGp5 132 rfl rfl, by decide, _, _, rfl⟩
theorem oX11_image : COV mX11_image 0 10 := ⟨⟨⟨by decide +kernel, by decide +kernel, by decide +kernel⟩, by decide, tGp9 42 rfl rfl, tGp1 13 rfl rfl⟩, tGp9 40 rfl rfl, tGp9 41 rfl rfl, by decide, _, _, rfl⟩
theorem oX10_ask : COV mX10_ask 0 9 := ⟨⟨⟨by decide +kernel, by decide +kernel, by decide +kernel⟩, by decide, tGp5 81 rfl rfl, tGp1 1 rfl rfl⟩, tGp5 79 rfl rfl, tGp5 80 rfl rfl, by decide, _, _, rfl⟩
theorem oX11_ask : COV mX11_ask 0 10 := ⟨⟨⟨by decide +kernel, by decide +kernel, by decide +kernel⟩, by decide, tGp9 20 rfl rfl, tGp1 13 rfl rfl⟩, tGp9 18 rfl rfl, tGp9 19 rfl rfl, by decide, _, _, rfl⟩
theorem oX10_seed : COV mX10_seed 1 9 := ⟨⟨⟨by decide +kernel, by decide +kernel, by decide +kernel⟩, by decide, tGp5 77 rfl rfl, tGp1 1 rfl rfl⟩, tGp5 75 rfl rfl, tGp5 76 rfl rfl, by decide, _, _, rfl⟩
theorem oX11_seed : COV mX11_seed 1 10 := ⟨⟨⟨by decide +kernel, by decide +kernel, by decide +kernel⟩, by decide, tGp9 12 rfl rfl, tGp1 13 rfl rfl⟩, tGp9 10 rfl rfl, tGp9 11 rfl rfl, by decide, _, _, rfl⟩
theorem oX10_undo : COV mX10_undo 0 9 := ⟨⟨⟨by decide +kernel, by decide +kernel, by decide +kernel⟩, by decide, tGp5 69 rfl rfl, tGp1 1 rfl rfl⟩, tGp5 67 rfl rfl, tGp5 68 rfl rfl, by decide, _, _, rfl⟩
theorem oX11_undo : COV mX11_undo 0 10 := ⟨⟨⟨by decide +kernel, by decide +kernel, by decide +kernel⟩, by decide, tGp8 228 rfl rfl, tGp1 13 rfl rfl⟩, tGp8 226 rfl rfl, tGp8 227 rfl rfl, by decide, _, _, rfl⟩
theorem oX10_chance : COV mX10_chance 1 9 := ⟨⟨⟨by decide +kernel, by decide +kernel, by decide +kernel⟩, by decide, tGp5 65 rfl rfl, tGp1 1 rfl rfl⟩, tGp5 63 rfl rfl, tGp5 64 rfl rfl, by decide, _, _, rfl⟩
theorem oX11_chance : COV mX11_chance 1 10 := ⟨⟨⟨by decide +kernel, by decide +kernel, by decide +kernel⟩, by decide, tGp9 16 rfl rfl, tGp1 13 rfl rfl⟩, tGp9 14 rfl rfl, tGp9 15 rfl rfl, by decide, _, _, rfl⟩
theorem oX10_noons : COV mX10_noons 1 9 := ⟨⟨⟨by decide +kernel, by decide +kernel, by decide +kernel⟩, by decide, tGp5 49 rfl rfl, tGp1 1 rfl rfl⟩, tGp5 47 rfl rfl, tGp5 48 rfl rfl, by decide, _, _, rfl⟩
theorem oX11_noons : COV mX11_noons 1 10 := ⟨⟨⟨by decide +kernel, by decide +kernel, by decide +kernel⟩, by decide, tGp9 4 rfl rfl, tGp1 13 rfl rfl⟩, tGp9 2 rfl rfl, tGp9 3 rfl rfl, by decide, _, _, rfl⟩
theorem oX10_train : COV mX10_train 3 9 := ⟨⟨⟨by decide +kernel, by decide +kernel, by decide +kernel⟩, by decide, tGp5 41 rfl rfl, tGp1 1 rfl rfl⟩, tGp5 39 rfl rfl, tGp5 40 rfl rfl, by decide, _, _, rfl⟩
theorem oX11_train : COV mX11_train 3 10 := ⟨⟨⟨by decide +kernel, by decide +kernel, by decide +kernel⟩, by decide, tGp9 0 rfl rfl, tGp1 13 rfl rfl⟩, tGp8 238 rfl rfl, tGp8 239 rfl rfl, by decide, _, _, rfl⟩
theorem oX10_move : COV mX10_move 3 9 := ⟨⟨⟨by decide +kernel, by decide +kernel, by decide +kernel⟩, by decide, tGp5 31 rfl rfl, tGp1 1 rfl rfl⟩, tGp5 29 rfl rfl, tGp5 30 rfl rfl, by decide, _, _, rfl⟩
theorem oX11_move : COV mX11_move 3 10 := ⟨⟨⟨by decide +kernel, by decide +kernel, by decide +kernel⟩, by decide, tGp8 232 rfl rfl, tGp1 13 rfl rfl⟩, tGp8 230 rfl rfl, tGp8 231 rfl rfl, by decide, _, _, rfl⟩
theorem oX10_asked : COV mX10_asked 1 9 := ⟨⟨⟨by decide +kernel, by decide +kernel, by decide +kernel⟩, by decide, tGp5 20 rfl rfl, tGp1 1 rfl rfl⟩, tGp5 18 rfl rfl, tGp5 19 rfl rfl, by decide, _, _, rfl⟩
theorem oX11_asked : COV mX11_asked 1 10 := ⟨⟨⟨by decide +kernel, by decide +kernel, by decide +kernel⟩, by decide, tGp8 221 rfl rfl, tGp1 13 rfl rfl⟩, tGp8 219 rfl rfl, tGp8 220 rfl rfl, by decide, _, _, rfl⟩
theorem oX11_wears : COV mX11_wears 1 10 := ⟨⟨⟨by decide +kernel, by decide +kernel, by decide +kernel⟩, by decide, tGp8 213 rfl rfl, tGp1 13 rfl rfl⟩, tGp8 211 rfl rfl, tGp8 212 rfl rfl, by decide, _, _, rfl⟩
theorem oX10_see : COV mX10_see 0 9 := ⟨⟨⟨by decide +kernel, by decide +kernel, by decide +kernel⟩, by decide, tGp5 6 rfl rfl, tGp1 1 rfl rfl⟩, tGp5 4 rfl rfl, tGp5 5 rfl rfl, by decide, _, _, rfl⟩
theorem oX11_see : COV mX11_see 0 10 := ⟨⟨⟨by decide +kernel, by decide +kernel, by decide +kernel⟩, by decide, tGp8 208 rfl rfl, tGp1 13 rfl rfl⟩, tGp8 206 rfl rfl, tGp8 207 rfl rfl, by decide, _, _, rfl⟩
theorem oX10_hatless : COV mX10_hatless 0 9 := ⟨⟨⟨by decide +kernel, by decide +kernel, by decide +kernel⟩, by decide, tGp5 2 rfl rfl, tGp1 1 rfl rfl⟩, tGp5 0 rfl rfl, tGp5 1 rfl rfl, by decide, _, _, rfl⟩
theorem oX11_hatless : COV mX11_hatless 0 10 := ⟨⟨⟨by decide +kernel, by decide +kernel, by decide +kernel⟩, by decide, tGp8 204 rfl rfl, tGp1 13 rfl rfl⟩, tGp8 202 rfl rfl, tGp8 203 rfl rfl, by decide, _, _, rfl⟩
theorem oX10_lasts : COV mX10_lasts 2 9 := ⟨⟨⟨by decide +kernel, by decide +kernel, by decide +kernel⟩, by decide, tGp4 238 rfl rfl, tGp1 1 rfl rfl⟩, tGp4 236 rfl rfl, tGp4 237 rfl rfl, by decide, _, _, rfl⟩
theorem oX11_lasts : COV mX11_lasts 2 10 := ⟨⟨⟨by decide +kernel, by decide +kernel, by decide +kernel⟩, by decide, tGp8 196 rfl rfl, tGp1 13 rfl rfl⟩, tGp8 194 rfl rfl, tGp8 195 rfl rfl, by decide, _, _, rfl⟩
theorem oX10_later : COV mX10_later 2 9 := ⟨⟨⟨by decide +kernel, by decide +kernel, by decide +kernel⟩, by decide, tGp4 217 rfl rfl, tGp1 1 rfl rfl⟩, tGp4 215 rfl rfl, tGp4 216 rfl rfl, by decide, _, _, rfl⟩
theorem oX11_later : COV mX11_later 2 10 := ⟨⟨⟨by decide +kernel, by decide +kernel, by decide +kernel⟩, by decide, tGp8 168 rfl rfl, tGp1 13 rfl rfl⟩, tGp8 166 rfl rfl, tGp8 167 rfl rfl, by decide, _, _, rfl⟩
theorem oX10_change : COV mX10_change 2 9 := ⟨⟨⟨by decide +kernel, by decide +kernel, by decide +kernel⟩, by decide, tGp4 196 rfl rfl, tGp1 1 rfl rfl⟩, tGp4 194 rfl rfl, tGp4 195 rfl rfl, by decide, _, _, rfl⟩
theorem oX11_change : COV mX11_change 2 10 := ⟨⟨⟨by decide +kernel, by decide +kernel, by decide +kernel⟩, by decide, tGp8 161 rfl rfl, tGp1 13 rfl rfl⟩, tGp8 159 rfl rfl, tGp8 160 rfl rfl, by decide, _, _, rfl⟩
theorem oX10_stand : COV mX10_stand 2 9 := ⟨⟨⟨by decide +kernel, by decide +kernel, by decide +kernel⟩, by decide, tGp4 183 rfl rfl, tGp1 1 rfl rfl⟩, tGp4 181 rfl rfl, tGp4 182 rfl rfl, by decide, _, _, rfl⟩
theorem oX11_stand : COV mX11_stand 2 10 := ⟨⟨⟨by decide +kernel, by decide +kernel, by decide +kernel⟩, by decide, tGp8 153 rfl rfl, tGp1 13 rfl rfl⟩, tGp8 151 rfl rfl, tGp8 152 rfl rfl, by decide, _, _, rfl⟩
theorem oX10_likely : COV mX10_likely 2 9 := ⟨⟨⟨by decide +kernel, by decide +kernel, by decide +kernel⟩, by decide, tGp4 166 rfl rfl, tGp1 1 rfl rfl⟩, tGp4 164 rfl rfl, tGp4 165 rfl rfl, by decide, _, _, rfl⟩
theorem oX11_likely : COV mX11_likely 2 10 := ⟨⟨⟨by decide +kernel, by decide +kernel, by decide +kernel⟩, by decide, tGp8 143 rfl rfl, tGp1 13 rfl rfl⟩, tGp8 141 rfl rfl, tGp8 142 rfl rfl, by decide, _, _, rfl⟩
theorem oX10_toss : COV mX10_toss 3 9 := ⟨⟨⟨by decide +kernel, by decide +kernel, by decide +kernel⟩, by decide, tGp4 69 rfl rfl, tGp1 1 rfl rfl⟩, tGp4 67 rfl rfl, tGp4 68 rfl rfl, by decide, _, _, rfl⟩
theorem oX11_toss : COV mX11_toss 3 10 := ⟨⟨⟨by decide +kernel, by decide +kernel, by decide +kernel⟩, by decide, tGp8 47 rfl rfl, tGp1 13 rfl rfl⟩, tGp8 45 rfl rfl, tGp8 46 rfl rfl, by decide, _, _, rfl⟩
theorem oX10_kept : COV mX10_kept 2 9 := ⟨⟨⟨by decide +kernel, by decide +kernel, by decide +kernel⟩, by decide, tGp4 60 rfl rfl, tGp1 1 rfl rfl⟩, tGp4 58 rfl rfl, tGp4 59 rfl rfl, by decide, _, _, rfl⟩
theorem oX11_kept : COV mX11_kept 2 10 := ⟨⟨⟨by decide +kernel, by decide +kernel, by decide +kernel⟩, by decide, tGp8 42 rfl rfl, tGp1 13 rfl rfl⟩, tGp8 40 rfl rfl, tGp8 41 rfl rfl, by decide, _, _, rfl⟩
theorem oX11_place : COV mX11_place 2 10 := ⟨⟨⟨by decide +kernel, by decide +kernel, by decide +kernel⟩, by decide, tGp8 18 rfl rfl, tGp1 13 rfl rfl⟩, tGp8 16 rfl rfl, tGp8 17 rfl rfl, by decide, _, _, rfl⟩
theorem oX10_person : COV mX10_person 2 9 := ⟨⟨⟨by decide +kernel, by decide +kernel, by decide +kernel⟩, by decide, tGp4 48 rfl rfl, tGp1 1 rfl rfl⟩, tGp4 46 rfl rfl, tGp4 47 rfl rfl, by decide, _, _, rfl⟩
theorem oX11_person : COV mX11_person 2 10 := ⟨⟨⟨by decide +kernel, by decide +kernel, by decide +kernel⟩, by decide, tGp8 6 rfl rfl, tGp1 13 rfl rfl⟩, tGp8 4 rfl rfl, tGp8 5 rfl rfl, by decide, _, _, rfl⟩
theorem oX10_letter : COV mX10_letter 3 9 := ⟨⟨⟨by decide +kernel, by decide +kernel, by decide +kernel⟩, by decide, tGp4 39 rfl rfl, tGp1 1 rfl rfl⟩, tGp4 37 rfl rfl, tGp4 38 rfl rfl, by decide, _, _, rfl⟩
theorem oX11_letter : COV mX11_letter 3 10 := ⟨⟨⟨by decide +kernel, by decide +kernel, by decide +kernel⟩, by decide, tGp8 1 rfl rfl, tGp1 13 rfl rfl⟩, tGp7 239 rfl rfl, tGp8 0 rfl rfl, by decide, _, _, rfl⟩
theorem oX10_has : COV mX10_has 1 9 := ⟨⟨⟨by decide +kernel, by decide +kernel, by decide +kernel⟩, by decide, tGp4 18 rfl rfl, tGp1 1 rfl rfl⟩, tGp4 16 rfl rfl, tGp4 17 rfl rfl, by decide, _, _, rfl⟩
theorem oX11_has : COV mX11_has 1 10 := ⟨⟨⟨by decide +kernel, by decide +kernel, by decide +kernel⟩, by decide, tGp7 233 rfl rfl, tGp1 13 rfl rfl⟩, tGp7 231 rfl rfl, tGp7 232 rfl rfl, by decide, _, _, rfl⟩
theorem oX10_fault : COV mX10_fault 1 9 := ⟨⟨⟨by decide +kernel, by decide +kernel, by decide +kernel⟩, by decide, tGp4 14 rfl rfl, tGp1 1 rfl rfl⟩, tGp4 12 rfl rfl, tGp4 13 rfl rfl, by decide, _, _, rfl⟩
theorem oX11_fault : COV mX11_fault 1 10 := ⟨⟨⟨by decide +kernel, by decide +kernel, by decide +kernel⟩, by decide, tGp6 116 rfl rfl, tGp1 13 rfl rfl⟩, tGp6 114 rfl rfl, tGp6 115 rfl rfl, by decide, _, _, rfl⟩
theorem oX10_square : COV mX10_square 0 9 := ⟨⟨⟨by decide +kernel, by decide +kernel, by decide +kernel⟩, by decide, tGp2 183 rfl rfl, tGp1 1 rfl rfl⟩, tGp2 181 rfl rfl, tGp2 182 rfl rfl, by decide, _, _, rfl⟩
theorem oX11_square : COV mX11_square 0 10 := ⟨⟨⟨by decide +kernel, by decide +kernel, by decide +kernel⟩, by decide, tGp5 169 rfl rfl, tGp1 13 rfl rfl⟩, tGp5 167 rfl rfl, tGp5 168 rfl rfl, by decide, _, _, rfl⟩
theorem oX10_end : COV mX10_end 1 9 := ⟨⟨⟨by decide +kernel, by decide +kernel, by decide +kernel⟩, by decide, tGp2 179 rfl rfl, tGp1 1 rfl rfl⟩, tGp2 177 rfl rfl, tGp2 178 rfl rfl, by decide, _, _, rfl⟩
theorem oX11_end : COV mX11_end 1 10 := ⟨⟨⟨by decide +kernel, by decide +kernel, by decide +kernel⟩, by decide, tGp5 165 rfl rfl, tGp1 13 rfl rfl⟩, tGp5 163 rfl rfl, tGp5 164 rfl rfl, by decide, _, _, rfl⟩
theorem oX10_feed : COV mX10_feed 5 9 := ⟨⟨⟨by decide +kernel, by decide +kernel, by decide +kernel⟩, by decide, tGp2 171 rfl rfl, tGp1 1 rfl rfl⟩, tGp2 169 rfl rfl, tGp2 170 rfl rfl, by decide, _, _, rfl⟩
theorem oX11_feed : COV mX11_feed 5 10 := ⟨⟨⟨by decide +kernel, by decide +kernel, by decide +kernel⟩, by decide, tGp5 161 rfl rfl, tGp1 13 rfl rfl⟩, tGp5 159 rfl rfl, tGp5 160 rfl rfl, by decide, _, _, rfl⟩
theorem kL_138 : Cond.methodLink "NoonHatLaw" 138 mX10_status.1 ∈ tG := tGp5 154 rfl rfl
theorem kL_141 : Cond.methodLink "NoonHatLaw" 141 mX11_status.1 ∈ tG := tGp9 66 rfl rfl
theorem kL_134 : Cond.methodLink "NoonHatLaw" 134 mX10_on.1 ∈ tG := tGp5 141 rfl rfl
theorem kL_137 : Cond.methodLink "NoonHatLaw" 137 mX11_on.1 ∈ tG := tGp9 54 rfl rfl
theorem kL_130 : Cond.methodLink "NoonHatLaw" 130 mX10_octet.1 ∈ tG := tGp5 137 rfl rfl
theorem kL_133 : Cond.methodLink "NoonHatLaw" 133 mX11_octet.1 ∈ tG := tGp9 50 rfl rfl
theorem kL_126 : Cond.methodLink "NoonHatLaw" 126 mX10_image.1 ∈ tG := tGp5 130 rfl rfl
theorem kL_129 : Cond.methodLink "NoonHatLaw" 129 mX11_image.1 ∈ tG := tGp9 39 rfl rfl
theorem kL_121 : Cond.methodLink "NoonHatLaw" 121 mX10_ask.1 ∈ tG := tGp5 78 rfl rfl
theorem kL_125 : Cond.methodLink "NoonHatLaw" 125 mX11_ask.1 ∈ tG := tGp9 17 rfl rfl
theorem kL_117 : Cond.methodLink "NoonHatLaw" 117 mX10_seed.1 ∈ tG := tGp5 74 rfl rfl
theorem kL_120 : Cond.methodLink "NoonHatLaw" 120 mX11_seed.1 ∈ tG := tGp9 9 rfl rfl
theorem kL_112 : Cond.methodLink "NoonHatLaw" 112 mX10_undo.1 ∈ tG := tGp5 66 rfl rfl
theorem kL_116 : Cond.methodLink "NoonHatLaw" 116 mX11_undo.1 ∈ tG := tGp8 225 rfl rfl
theorem kL_108 : Cond.methodLink "NoonHatLaw" 108 mX10_chance.1 ∈ tG := tGp5 62 rfl rfl
theorem kL_111 : Cond.methodLink "NoonHatLaw" 111 mX11_chance.1 ∈ tG := tGp9 13 rfl rfl
theorem kL_104 : Cond.methodLink "NoonHatLaw" 104 mX10_noons.1 ∈ tG := tGp5 46 rfl rfl
theorem kL_107 : Cond.methodLink "NoonHatLaw" 107 mX11_noons.1 ∈ tG := tGp9 1 rfl rfl
theorem kL_100 : Cond.methodLink "NoonHatLaw" 100 mX10_train.1 ∈ tG := tGp5 38 rfl rfl
theorem kL_103 : Cond.methodLink "NoonHatLaw" 103 mX11_train.1 ∈ tG := tGp8 237 rfl rfl
theorem kL_95 : Cond.methodLink "NoonHatLaw" 95 mX10_move.1 ∈ tG := tGp5 28 rfl rfl
theorem kL_99 : Cond.methodLink "NoonHatLaw" 99 mX11_move.1 ∈ tG := tGp8 229 rfl rfl
theorem kL_91 : Cond.methodLink "NoonHatLaw" 91 mX10_asked.1 ∈ tG := tGp5 17 rfl rfl
theorem kL_94 : Cond.methodLink "NoonHatLaw" 94 mX11_asked.1 ∈ tG := tGp8 218 rfl rfl
theorem kL_87 : Cond.methodLink "NoonHatLaw" 87 mX10_wears.1 ∈ tG := tGp5 12 rfl rfl
theorem kL_90 : Cond.methodLink "NoonHatLaw" 90 mX11_wears.1 ∈ tG := tGp8 210 rfl rfl
theorem kL_83 : Cond.methodLink "NoonHatLaw" 83 mX10_see.1 ∈ tG := tGp5 3 rfl rfl
theorem kL_86 : Cond.methodLink "NoonHatLaw" 86 mX11_see.1 ∈ tG := tGp8 205 rfl rfl
theorem kL_79 : Cond.methodLink "NoonHatLaw" 79 mX10_hatless.1 ∈ tG := tGp4 239 rfl rfl
theorem kL_82 : Cond.methodLink "NoonHatLaw" 82 mX11_hatless.1 ∈ tG := tGp8 201 rfl rfl
theorem kL_75 : Cond.methodLink "NoonHatLaw" 75 mX10_lasts.1 ∈ tG := tGp4 235 rfl rfl
theorem kL_78 : Cond.methodLink "NoonHatLaw" 78 mX11_lasts.1 ∈ tG := tGp8 193 rfl rfl
theorem kL_71 : Cond.methodLink "NoonHatLaw" 71 mX10_later.1 ∈ tG := tGp4 214 rfl rfl
theorem kL_74 : Cond.methodLink "NoonHatLaw" 74 mX11_later.1 ∈ tG := tGp8 165 rfl rfl
theorem kL_67 : Cond.methodLink "NoonHatLaw" 67 mX10_change.1 ∈ tG := tGp4 193 rfl rfl
theorem kL_70 : Cond.methodLink "NoonHatLaw" 70 mX11_change.1 ∈ tG := tGp8 158 rfl rfl
theorem kL_63 : Cond.methodLink "NoonHatLaw" 63 mX10_stand.1 ∈ tG := tGp4 180 rfl rfl
theorem kL_66 : Cond.methodLink "NoonHatLaw" 66 mX11_stand.1 ∈ tG := tGp8 150 rfl rfl
theorem kL_59 : Cond.methodLink "NoonHatLaw" 59 mX10_likely.1 ∈ tG := tGp4 163 rfl rfl
theorem kL_62 : Cond.methodLink "NoonHatLaw" 62 mX11_likely.1 ∈ tG := tGp8 140 rfl rfl
theorem kL_55 : Cond.methodLink "NoonHatLaw" 55 mX10_toss.1 ∈ tG := tGp4 66 rfl rfl
theorem kL_58 : Cond.methodLink "NoonHatLaw" 58 mX11_toss.1 ∈ tG := tGp8 44 rfl rfl
theorem kL_51 : Cond.methodLink "NoonHatLaw" 51 mX10_kept.1 ∈ tG := tGp4 57 rfl rfl
theorem kL_54 : Cond.methodLink "NoonHatLaw" 54 mX11_kept.1 ∈ tG := tGp8 39 rfl rfl
theorem kL_47 : Cond.methodLink "NoonHatLaw" 47 mX10_place.1 ∈ tG := tGp4 50 rfl rfl
theorem kL_50 : Cond.methodLink "NoonHatLaw" 50 mX11_place.1 ∈ tG := tGp8 15 rfl rfl
theorem kL_42 : Cond.methodLink "NoonHatLaw" 42 mX10_person.1 ∈ tG := tGp4 45 rfl rfl
theorem kL_46 : Cond.methodLink "NoonHatLaw" 46 mX11_person.1 ∈ tG := tGp8 3 rfl rfl
theorem kL_37 : Cond.methodLink "NoonHatLaw" 37 mX10_letter.1 ∈ tG := tGp4 36 rfl rfl
theorem kL_41 : Cond.methodLink "NoonHatLaw" 41 mX11_letter.1 ∈ tG := tGp7 238 rfl rfl
theorem kL_33 : Cond.methodLink "NoonHatLaw" 33 mX10_has.1 ∈ tG := tGp4 15 rfl rfl
theorem kL_36 : Cond.methodLink "NoonHatLaw" 36 mX11_has.1 ∈ tG := tGp7 230 rfl rfl
theorem kL_28 : Cond.methodLink "NoonHatLaw" 28 mX10_fault.1 ∈ tG := tGp4 11 rfl rfl
theorem kL_32 : Cond.methodLink "NoonHatLaw" 32 mX11_fault.1 ∈ tG := tGp6 113 rfl rfl
theorem kL_23 : Cond.methodLink "NoonHatLaw" 23 mX10_square.1 ∈ tG := tGp2 180 rfl rfl
theorem kL_27 : Cond.methodLink "NoonHatLaw" 27 mX11_square.1 ∈ tG := tGp5 166 rfl rfl
theorem kL_18 : Cond.methodLink "NoonHatLaw" 18 mX10_end.1 ∈ tG := tGp2 176 rfl rfl
theorem kL_22 : Cond.methodLink "NoonHatLaw" 22 mX11_end.1 ∈ tG := tGp5 162 rfl rfl
theorem kL_13 : Cond.methodLink "NoonHatLaw" 13 mX10_feed.1 ∈ tG := tGp2 168 rfl rfl
theorem kL_17 : Cond.methodLink "NoonHatLaw" 17 mX11_feed.1 ∈ tG := tGp5 158 rfl rfl
theorem S_L_law_16 {X : CX} {d : Nat} {I R : PF} {Q : PV → PF → PF → Prop} (h : PL X d mL_law 18 [(2, 42), (2, 64), (2, 306), (0, 0)] [] I R Q) : PL X d mL_law 16 [(2, 42), (2, 64), (2, 306)] [] I R Q := by
  refine P_iconst (n := 0) (q := 17) rfl (by decide +kernel) ?_
  refine P_istore_n (n := 3) (by decide) (q := 18) rfl (by decide +kernel) ?_
  exact h
theorem S_L_law_18 {X : CX} {d : Nat} {x3 : Int} {I R : PF} {Q : PV → PF → PF → Prop} (c1 : -2147483648 ≤ x3 ∧ x3 < 2147483648) (c2 : -2147483648 ≤ ((xN X : Int) - 6) ∧ ((xN X : Int) - 6) < 2147483648) (h1 : ((xN X : Int) - 6) < x3 → PL X d mL_law 995 [] [] I R Q) (h2 : x3 ≤ ((xN X : Int) - 6) → PL X d mL_law 27 [(2, 42), (2, 64), (2, 306), (0, x3)] [] I R Q) : PL X d mL_law 18 [(2, 42), (2, 64), (2, 306), (0, x3)] [] I R Q := by
  refine P_iload_n (n := 3) (q := 19) rfl rfl (by decide +kernel) ?_
  refine P_aload_n (n := 0) (q := 20) rfl rfl (by decide +kernel) ?_
  refine P_alenX (q := 21) rfl (by decide +kernel) ?_
  refine P_bipush (n := 6) (q := 23) rfl rfl (by decide +kernel) ?_
  refine P_isub (q := 24) rfl (by decide +kernel) ?_
  refine B_icmp_gt (off := 971) (t := 995) (q := 27) c1 c2 (by decide) rfl (by decide +kernel) ?_ ?_
  · exact fun g9 => (PW_sub (ls' := []) trivial (h1 g9))
  · exact fun g9 => (h2 g9)
theorem S_L_law_27 {X : CX} {d : Nat} {x3 : Int} {I R : PF} {Q : PV → PF → PF → Prop} (b1 : 0 ≤ x3 ∧ x3 < (xN X : Int)) (n1 : xN X < 2147483648) (c1 : -2147483648 ≤ ((Int32.ofInt ((xV X (x3).toNat).toInt) &&& Int32.ofInt 31).toInt) ∧ ((Int32.ofInt ((xV X (x3).toNat).toInt) &&& Int32.ofInt 31).toInt) < 2147483648) (h0 : ((Int32.ofInt ((xV X (x3).toNat).toInt) &&& Int32.ofInt 31).toInt) = 0 → PL X d mL_law 168 [(2, 42), (2, 64), (2, 306), (0, x3)] [] I R Q) (h1 : ((Int32.ofInt ((xV X (x3).toNat).toInt) &&& Int32.ofInt 31).toInt) = 1 → PL X d mL_law 231 [(2, 42), (2, 64), (2, 306), (0, x3)] [] I R Q) (h2 : ((Int32.ofInt ((xV X (x3).toNat).toInt) &&& Int32.ofInt 31).toInt) = 2 → PL X d mL_law 254 [(2, 42), (2, 64), (2, 306), (0, x3)] [] I R Q) (h3 : ((Int32.ofInt ((xV X (x3).toNat).toInt) &&& Int32.ofInt 31).toInt) = 3 → PL X d mL_law 267 [(2, 42), (2, 64), (2, 306), (0, x3)] [] I R Q) (h4 : ((Int32.ofInt ((xV X (x3).toNat).toInt) &&& Int32.ofInt 31).toInt) = 4 → PL X d mL_law 290 [(2, 42), (2, 64), (2, 306), (0, x3)] [] I R Q) (h5 : ((Int32.ofInt ((xV X (x3).toNat).toInt) &&& Int32.ofInt 31).toInt) = 5 → PL X d mL_law 313 [(2, 42), (2, 64), (2, 306), (0, x3)] [] I R Q) (h6 : ((Int32.ofInt ((xV X (x3).toNat).toInt) &&& Int32.ofInt 31).toInt) = 6 → PL X d mL_law 356 [(2, 42), (2, 64), (2, 306), (0, x3)] [] I R Q) (h7 : ((Int32.ofInt ((xV X (x3).toNat).toInt) &&& Int32.ofInt 31).toInt) = 7 → PL X d mL_law 389 [(2, 42), (2, 64), (2, 306), (0, x3)] [] I R Q) (h8 : ((Int32.ofInt ((xV X (x3).toNat).toInt) &&& Int32.ofInt 31).toInt) = 8 → PL X d mL_law 422 [(2, 42), (2, 64), (2, 306), (0, x3)] [] I R Q) (h9 : ((Int32.ofInt ((xV X (x3).toNat).toInt) &&& Int32.ofInt 31).toInt) = 9 → PL X d mL_law 455 [(2, 42), (2, 64), (2, 306), (0, x3)] [] I R Q) (h10 : ((Int32.ofInt ((xV X (x3).toNat).toInt) &&& Int32.ofInt 31).toInt) = 10 → PL X d mL_law 498 [(2, 42), (2, 64), (2, 306), (0, x3)] [] I R Q) (h11 : ((Int32.ofInt ((xV X (x3).toNat).toInt) &&& Int32.ofInt 31).toInt) = 11 → PL X d mL_law 531 [(2, 42), (2, 64), (2, 306), (0, x3)] [] I R Q) (h12 : ((Int32.ofInt ((xV X (x3).toNat).toInt) &&& Int32.ofInt 31).toInt) = 12 → PL X d mL_law 564 [(2, 42), (2, 64), (2, 306), (0, x3)] [] I R Q) (h13 : ((Int32.ofInt ((xV X (x3).toNat).toInt) &&& Int32.ofInt 31).toInt) = 13 → PL X d mL_law 597 [(2, 42), (2, 64), (2, 306), (0, x3)] [] I R Q) (h14 : ((Int32.ofInt ((xV X (x3).toNat).toInt) &&& Int32.ofInt 31).toInt) = 14 → PL X d mL_law 630 [(2, 42), (2, 64), (2, 306), (0, x3)] [] I R Q) (h15 : ((Int32.ofInt ((xV X (x3).toNat).toInt) &&& Int32.ofInt 31).toInt) = 15 → PL X d mL_law 663 [(2, 42), (2, 64), (2, 306), (0, x3)] [] I R Q) (h16 : ((Int32.ofInt ((xV X (x3).toNat).toInt) &&& Int32.ofInt 31).toInt) = 16 → PL X d mL_law 676 [(2, 42), (2, 64), (2, 306), (0, x3)] [] I R Q) (h17 : ((Int32.ofInt ((xV X (x3).toNat).toInt) &&& Int32.ofInt 31).toInt) = 17 → PL X d mL_law 689 [(2, 42), (2, 64), (2, 306), (0, x3)] [] I R Q) (h18 : ((Int32.ofInt ((xV X (x3).toNat).toInt) &&& Int32.ofInt 31).toInt) = 18 → PL X d mL_law 712 [(2, 42), (2, 64), (2, 306), (0, x3)] [] I R Q) (h19 : ((Int32.ofInt ((xV X (x3).toNat).toInt) &&& Int32.ofInt 31).toInt) = 19 → PL X d mL_law 735 [(2, 42), (2, 64), (2, 306), (0, x3)] [] I R Q) (h20 : ((Int32.ofInt ((xV X (x3).toNat).toInt) &&& Int32.ofInt 31).toInt) = 20 → PL X d mL_law 778 [(2, 42), (2, 64), (2, 306), (0, x3)] [] I R Q) (h21 : ((Int32.ofInt ((xV X (x3).toNat).toInt) &&& Int32.ofInt 31).toInt) = 21 → PL X d mL_law 821 [(2, 42), (2, 64), (2, 306), (0, x3)] [] I R Q) (h22 : ((Int32.ofInt ((xV X (x3).toNat).toInt) &&& Int32.ofInt 31).toInt) = 22 → PL X d mL_law 844 [(2, 42), (2, 64), (2, 306), (0, x3)] [] I R Q) (h23 : ((Int32.ofInt ((xV X (x3).toNat).toInt) &&& Int32.ofInt 31).toInt) = 23 → PL X d mL_law 867 [(2, 42), (2, 64), (2, 306), (0, x3)] [] I R Q) (h24 : ((Int32.ofInt ((xV X (x3).toNat).toInt) &&& Int32.ofInt 31).toInt) = 24 → PL X d mL_law 880 [(2, 42), (2, 64), (2, 306), (0, x3)] [] I R Q) (h25 : ((Int32.ofInt ((xV X (x3).toNat).toInt) &&& Int32.ofInt 31).toInt) = 25 → PL X d mL_law 903 [(2, 42), (2, 64), (2, 306), (0, x3)] [] I R Q) (h26 : ((Int32.ofInt ((xV X (x3).toNat).toInt) &&& Int32.ofInt 31).toInt) = 26 → PL X d mL_law 917 [(2, 42), (2, 64), (2, 306), (0, x3)] [] I R Q) (h27 : ((Int32.ofInt ((xV X (x3).toNat).toInt) &&& Int32.ofInt 31).toInt) = 27 → PL X d mL_law 930 [(2, 42), (2, 64), (2, 306), (0, x3)] [] I R Q) (h28 : ((Int32.ofInt ((xV X (x3).toNat).toInt) &&& Int32.ofInt 31).toInt) = 28 → PL X d mL_law 953 [(2, 42), (2, 64), (2, 306), (0, x3)] [] I R Q) (h29 : ((Int32.ofInt ((xV X (x3).toNat).toInt) &&& Int32.ofInt 31).toInt) = 29 → PL X d mL_law 966 [(2, 42), (2, 64), (2, 306), (0, x3)] [] I R Q) (hd : ((Int32.ofInt ((xV X (x3).toNat).toInt) &&& Int32.ofInt 31).toInt) < 0 ∨ 29 < ((Int32.ofInt ((xV X (x3).toNat).toInt) &&& Int32.ofInt 31).toInt) → PL X d mL_law 989 [(2, 42), (2, 64), (2, 306), (0, x3)] [] I R Q) : PL X d mL_law 27 [(2, 42), (2, 64), (2, 306), (0, x3)] [] I R Q := by
  refine P_aload_n (n := 0) (q := 28) rfl rfl (by decide +kernel) ?_
  refine P_iload_n (n := 3) (q := 29) rfl rfl (by decide +kernel) ?_
  refine B_ialoadX (q := 30) b1 n1 rfl (by decide +kernel) ?_
  refine P_bipush (n := 31) (q := 32) rfl rfl (by decide +kernel) ?_
  refine P_iand (q := 33) rfl (by decide +kernel) ?_
  rcases tab_cases (lo := 0) (n := 30) ((Int32.ofInt ((xV X (x3).toNat).toInt) &&& Int32.ofInt 31).toInt) with e9 | ⟨k9, hk9, e9⟩
  · exact P_tableOut (dflt := 956) (lo := 0) (hi := 29) (offs := #[135, 198, 221, 234, 257, 280, 323, 356, 389, 422, 465, 498, 531, 564, 597, 630, 643, 656, 679, 702, 745, 788, 811, 834, 847, 870, 884, 897, 920, 933]) (len := 135) (t := 989) (by decide +kernel) (by rw [w_of c1]; exact e9) (by decide) (hd e9)
  · rcases (show k9 = 0 ∨ k9 = 1 ∨ k9 = 2 ∨ k9 = 3 ∨ k9 = 4 ∨ k9 = 5 ∨ k9 = 6 ∨ k9 = 7 ∨ k9 = 8 ∨ k9 = 9 ∨ k9 = 10 ∨ k9 = 11 ∨ k9 = 12 ∨ k9 = 13 ∨ k9 = 14 ∨ k9 = 15 ∨ k9 = 16 ∨ k9 = 17 ∨ k9 = 18 ∨ k9 = 19 ∨ k9 = 20 ∨ k9 = 21 ∨ k9 = 22 ∨ k9 = 23 ∨ k9 = 24 ∨ k9 = 25 ∨ k9 = 26 ∨ k9 = 27 ∨ k9 = 28 ∨ k9 = 29 by omega) with rfl | rfl | rfl | rfl | rfl | rfl | rfl | rfl | rfl | rfl | rfl | rfl | rfl | rfl | rfl | rfl | rfl | rfl | rfl | rfl | rfl | rfl | rfl | rfl | rfl | rfl | rfl | rfl | rfl | rfl
    · exact P_tableIn (dflt := 956) (lo := 0) (hi := 29) (offs := #[135, 198, 221, 234, 257, 280, 323, 356, 389, 422, 465, 498, 531, 564, 597, 630, 643, 656, 679, 702, 745, 788, 811, 834, 847, 870, 884, 897, 920, 933]) (len := 135) (off := 135) (t := 168) (by decide +kernel) (by rw [w_of c1, e9]; decide) (by rw [w_of c1, e9]; decide) (by rw [w_of c1, e9]; rfl) (by decide) (h0 (e9.trans (by decide)))
    · exact P_tableIn (dflt := 956) (lo := 0) (hi := 29) (offs := #[135, 198, 221, 234, 257, 280, 323, 356, 389, 422, 465, 498, 531, 564, 597, 630, 643, 656, 679, 702, 745, 788, 811, 834, 847, 870, 884, 897, 920, 933]) (len := 135) (off := 198) (t := 231) (by decide +kernel) (by rw [w_of c1, e9]; decide) (by rw [w_of c1, e9]; decide) (by rw [w_of c1, e9]; rfl) (by decide) (h1 (e9.trans (by decide)))
    · exact P_tableIn (dflt := 956) (lo := 0) (hi := 29) (offs := #[135, 198, 221, 234, 257, 280, 323, 356, 389, 422, 465, 498, 531, 564, 597, 630, 643, 656, 679, 702, 745, 788, 811, 834, 847, 870, 884, 897, 920, 933]) (len := 135) (off := 221) (t := 254) (by decide +kernel) (by rw [w_of c1, e9]; decide) (by rw [w_of c1, e9]; decide) (by rw [w_of c1, e9]; rfl) (by decide) (h2 (e9.trans (by decide)))
    · exact P_tableIn (dflt := 956) (lo := 0) (hi := 29) (offs := #[135, 198, 221, 234, 257, 280, 323, 356, 389, 422, 465, 498, 531, 564, 597, 630, 643, 656, 679, 702, 745, 788, 811, 834, 847, 870, 884, 897, 920, 933]) (len := 135) (off := 234) (t := 267) (by decide +kernel) (by rw [w_of c1, e9]; decide) (by rw [w_of c1, e9]; decide) (by rw [w_of c1, e9]; rfl) (by decide) (h3 (e9.trans (by decide)))
    · exact P_tableIn (dflt := 956) (lo := 0) (hi := 29) (offs := #[135, 198, 221, 234, 257, 280, 323, 356, 389, 422, 465, 498, 531, 564, 597, 630, 643, 656, 679, 702, 745, 788, 811, 834, 847, 870, 884, 897, 920, 933]) (len := 135) (off := 257) (t := 290) (by decide +kernel) (by rw [w_of c1, e9]; decide) (by rw [w_of c1, e9]; decide) (by rw [w_of c1, e9]; rfl) (by decide) (h4 (e9.trans (by decide)))
    · exact P_tableIn (dflt := 956) (lo := 0) (hi := 29) (offs := #[135, 198, 221, 234, 257, 280, 323, 356, 389, 422, 465, 498, 531, 564, 597, 630, 643, 656, 679, 702, 745, 788, 811, 834, 847, 870, 884, 897, 920, 933]) (len := 135) (off := 280) (t := 313) (by decide +kernel) (by rw [w_of c1, e9]; decide) (by rw [w_of c1, e9]; decide) (by rw [w_of c1, e9]; rfl) (by decide) (h5 (e9.trans (by decide)))
    · exact P_tableIn (dflt := 956) (lo := 0) (hi := 29) (offs := #[135, 198, 221, 234, 257, 280, 323, 356, 389, 422, 465, 498, 531, 564, 597, 630, 643, 656, 679, 702, 745, 788, 811, 834, 847, 870, 884, 897, 920, 933]) (len := 135) (off := 323) (t := 356) (by decide +kernel) (by rw [w_of c1, e9]; decide) (by rw [w_of c1, e9]; decide) (by rw [w_of c1, e9]; rfl) (by decide) (h6 (e9.trans (by decide)))
    · exact P_tableIn (dflt := 956) (lo := 0) (hi := 29) (offs := #[135, 198, 221, 234, 257, 280, 323, 356, 389, 422, 465, 498, 531, 564, 597, 630, 643, 656, 679, 702, 745, 788, 811, 834, 847, 870, 884, 897, 920, 933]) (len := 135) (off := 356) (t := 389) (by decide +kernel) (by rw [w_of c1, e9]; decide) (by rw [w_of c1, e9]; decide) (by rw [w_of c1, e9]; rfl) (by decide) (h7 (e9.trans (by decide)))
    · exact P_tableIn (dflt := 956) (lo := 0) (hi := 29) (offs := #[135, 198, 221, 234, 257, 280, 323, 356, 389, 422, 465, 498, 531, 564, 597, 630, 643, 656, 679, 702, 745, 788, 811, 834, 847, 870, 884, 897, 920, 933]) (len := 135) (off := 389) (t := 422) (by decide +kernel) (by rw [w_of c1, e9]; decide) (by rw [w_of c1, e9]; decide) (by rw [w_of c1, e9]; rfl) (by decide) (h8 (e9.trans (by decide)))
    · exact P_tableIn (dflt := 956) (lo := 0) (hi := 29) (offs := #[135, 198, 221, 234, 257, 280, 323, 356, 389, 422, 465, 498, 531, 564, 597, 630, 643, 656, 679, 702, 745, 788, 811, 834, 847, 870, 884, 897, 920, 933]) (len := 135) (off := 422) (t := 455) (by decide +kernel) (by rw [w_of c1, e9]; decide) (by rw [w_of c1, e9]; decide) (by rw [w_of c1, e9]; rfl) (by decide) (h9 (e9.trans (by decide)))
    · exact P_tableIn (dflt := 956) (lo := 0) (hi := 29) (offs := #[135, 198, 221, 234, 257, 280, 323, 356, 389, 422, 465, 498, 531, 564, 597, 630, 643, 656, 679, 702, 745, 788, 811, 834, 847, 870, 884, 897, 920, 933]) (len := 135) (off := 465) (t := 498) (by decide +kernel) (by rw [w_of c1, e9]; decide) (by rw [w_of c1, e9]; decide) (by rw [w_of c1, e9]; rfl) (by decide) (h10 (e9.trans (by decide)))
    · exact P_tableIn (dflt := 956) (lo := 0) (hi := 29) (offs := #[135, 198, 221, 234, 257, 280, 323, 356, 389, 422, 465, 498, 531, 564, 597, 630, 643, 656, 679, 702, 745, 788, 811, 834, 847, 870, 884, 897, 920, 933]) (len := 135) (off := 498) (t := 531) (by decide +kernel) (by rw [w_of c1, e9]; decide) (by rw [w_of c1, e9]; decide) (by rw [w_of c1, e9]; rfl) (by decide) (h11 (e9.trans (by decide)))
    · exact P_tableIn (dflt := 956) (lo := 0) (hi := 29) (offs := #[135, 198, 221, 234, 257, 280, 323, 356, 389, 422, 465, 498, 531, 564, 597, 630, 643, 656, 679, 702, 745, 788, 811, 834, 847, 870, 884, 897, 920, 933]) (len := 135) (off := 531) (t := 564) (by decide +kernel) (by rw [w_of c1, e9]; decide) (by rw [w_of c1, e9]; decide) (by rw [w_of c1, e9]; rfl) (by decide) (h12 (e9.trans (by decide)))
    · exact P_tableIn (dflt := 956) (lo := 0) (hi := 29) (offs := #[135, 198, 221, 234, 257, 280, 323, 356, 389, 422, 465, 498, 531, 564, 597, 630, 643, 656, 679, 702, 745, 788, 811, 834, 847, 870, 884, 897, 920, 933]) (len := 135) (off := 564) (t := 597) (by decide +kernel) (by rw [w_of c1, e9]; decide) (by rw [w_of c1, e9]; decide) (by rw [w_of c1, e9]; rfl) (by decide) (h13 (e9.trans (by decide)))
    · exact P_tableIn (dflt := 956) (lo := 0) (hi := 29) (offs := #[135, 198, 221, 234, 257, 280, 323, 356, 389, 422, 465, 498, 531, 564, 597, 630, 643, 656, 679, 702, 745, 788, 811, 834, 847, 870, 884, 897, 920, 933]) (len := 135) (off := 597) (t := 630) (by decide +kernel) (by rw [w_of c1, e9]; decide) (by rw [w_of c1, e9]; decide) (by rw [w_of c1, e9]; rfl) (by decide) (h14 (e9.trans (by decide)))
    · exact P_tableIn (dflt := 956) (lo := 0) (hi := 29) (offs := #[135, 198, 221, 234, 257, 280, 323, 356, 389, 422, 465, 498, 531, 564, 597, 630, 643, 656, 679, 702, 745, 788, 811, 834, 847, 870, 884, 897, 920, 933]) (len := 135) (off := 630) (t := 663) (by decide +kernel) (by rw [w_of c1, e9]; decide) (by rw [w_of c1, e9]; decide) (by rw [w_of c1, e9]; rfl) (by decide) (h15 (e9.trans (by decide)))
    · exact P_tableIn (dflt := 956) (lo := 0) (hi := 29) (offs := #[135, 198, 221, 234, 257, 280, 323, 356, 389, 422, 465, 498, 531, 564, 597, 630, 643, 656, 679, 702, 745, 788, 811, 834, 847, 870, 884, 897, 920, 933]) (len := 135) (off := 643) (t := 676) (by decide +kernel) (by rw [w_of c1, e9]; decide) (by rw [w_of c1, e9]; decide) (by rw [w_of c1, e9]; rfl) (by decide) (h16 (e9.trans (by decide)))
    · exact P_tableIn (dflt := 956) (lo := 0) (hi := 29) (offs := #[135, 198, 221, 234, 257, 280, 323, 356, 389, 422, 465, 498, 531, 564, 597, 630, 643, 656, 679, 702, 745, 788, 811, 834, 847, 870, 884, 897, 920, 933]) (len := 135) (off := 656) (t := 689) (by decide +kernel) (by rw [w_of c1, e9]; decide) (by rw [w_of c1, e9]; decide) (by rw [w_of c1, e9]; rfl) (by decide) (h17 (e9.trans (by decide)))
    · exact P_tableIn (dflt := 956) (lo := 0) (hi := 29) (offs := #[135, 198, 221, 234, 257, 280, 323, 356, 389, 422, 465, 498, 531, 564, 597, 630, 643, 656, 679, 702, 745, 788, 811, 834, 847, 870, 884, 897, 920, 933]) (len := 135) (off := 679) (t := 712) (by decide +kernel) (by rw [w_of c1, e9]; decide) (by rw [w_of c1, e9]; decide) (by rw [w_of c1, e9]; rfl) (by decide) (h18 (e9.trans (by decide)))
    · exact P_tableIn (dflt := 956) (lo := 0) (hi := 29) (offs := #[135, 198, 221, 234, 257, 280, 323, 356, 389, 422, 465, 498, 531, 564, 597, 630, 643, 656, 679, 702, 745, 788, 811, 834, 847, 870, 884, 897, 920, 933]) (len := 135) (off := 702) (t := 735) (by decide +kernel) (by rw [w_of c1, e9]; decide) (by rw [w_of c1, e9]; decide) (by rw [w_of c1, e9]; rfl) (by decide) (h19 (e9.trans (by decide)))
    · exact P_tableIn (dflt := 956) (lo := 0) (hi := 29) (offs := #[135, 198, 221, 234, 257, 280, 323, 356, 389, 422, 465, 498, 531, 564, 597, 630, 643, 656, 679, 702, 745, 788, 811, 834, 847, 870, 884, 897, 920, 933]) (len := 135) (off := 745) (t := 778) (by decide +kernel) (by rw [w_of c1, e9]; decide) (by rw [w_of c1, e9]; decide) (by rw [w_of c1, e9]; rfl) (by decide) (h20 (e9.trans (by decide)))
    · exact P_tableIn (dflt := 956) (lo := 0) (hi := 29) (offs := #[135, 198, 221, 234, 257, 280, 323, 356, 389, 422, 465, 498, 531, 564, 597, 630, 643, 656, 679, 702, 745, 788, 811, 834, 847, 870, 884, 897, 920, 933]) (len := 135) (off := 788) (t := 821) (by decide +kernel) (by rw [w_of c1, e9]; decide) (by rw [w_of c1, e9]; decide) (by rw [w_of c1, e9]; rfl) (by decide) (h21 (e9.trans (by decide)))
    · exact P_tableIn (dflt := 956) (lo := 0) (hi := 29) (offs := #[135, 198, 221, 234, 257, 280, 323, 356, 389, 422, 465, 498, 531, 564, 597, 630, 643, 656, 679, 702, 745, 788, 811, 834, 847, 870, 884, 897, 920, 933]) (len := 135) (off := 811) (t := 844) (by decide +kernel) (by rw [w_of c1, e9]; decide) (by rw [w_of c1, e9]; decide) (by rw [w_of c1, e9]; rfl) (by decide) (h22 (e9.trans (by decide)))
    · exact P_tableIn (dflt := 956) (lo := 0) (hi := 29) (offs := #[135, 198, 221, 234, 257, 280, 323, 356, 389, 422, 465, 498, 531, 564, 597, 630, 643, 656, 679, 702, 745, 788, 811, 834, 847, 870, 884, 897, 920, 933]) (len := 135) (off := 834) (t := 867) (by decide +kernel) (by rw [w_of c1, e9]; decide) (by rw [w_of c1, e9]; decide) (by rw [w_of c1, e9]; rfl) (by decide) (h23 (e9.trans (by decide)))
    · exact P_tableIn (dflt := 956) (lo := 0) (hi := 29) (offs := #[135, 198, 221, 234, 257, 280, 323, 356, 389, 422, 465, 498, 531, 564, 597, 630, 643, 656, 679, 702, 745, 788, 811, 834, 847, 870, 884, 897, 920, 933]) (len := 135) (off := 847) (t := 880) (by decide +kernel) (by rw [w_of c1, e9]; decide) (by rw [w_of c1, e9]; decide) (by rw [w_of c1, e9]; rfl) (by decide) (h24 (e9.trans (by decide)))
    · exact P_tableIn (dflt := 956) (lo := 0) (hi := 29) (offs := #[135, 198, 221, 234, 257, 280, 323, 356, 389, 422, 465, 498, 531, 564, 597, 630, 643, 656, 679, 702, 745, 788, 811, 834, 847, 870, 884, 897, 920, 933]) (len := 135) (off := 870) (t := 903) (by decide +kernel) (by rw [w_of c1, e9]; decide) (by rw [w_of c1, e9]; decide) (by rw [w_of c1, e9]; rfl) (by decide) (h25 (e9.trans (by decide)))
    · exact P_tableIn (dflt := 956) (lo := 0) (hi := 29) (offs := #[135, 198, 221, 234, 257, 280, 323, 356, 389, 422, 465, 498, 531, 564, 597, 630, 643, 656, 679, 702, 745, 788, 811, 834, 847, 870, 884, 897, 920, 933]) (len := 135) (off := 884) (t := 917) (by decide +kernel) (by rw [w_of c1, e9]; decide) (by rw [w_of c1, e9]; decide) (by rw [w_of c1, e9]; rfl) (by decide) (h26 (e9.trans (by decide)))
    · exact P_tableIn (dflt := 956) (lo := 0) (hi := 29) (offs := #[135, 198, 221, 234, 257, 280, 323, 356, 389, 422, 465, 498, 531, 564, 597, 630, 643, 656, 679, 702, 745, 788, 811, 834, 847, 870, 884, 897, 920, 933]) (len := 135) (off := 897) (t := 930) (by decide +kernel) (by rw [w_of c1, e9]; decide) (by rw [w_of c1, e9]; decide) (by rw [w_of c1, e9]; rfl) (by decide) (h27 (e9.trans (by decide)))
    · exact P_tableIn (dflt := 956) (lo := 0) (hi := 29) (offs := #[135, 198, 221, 234, 257, 280, 323, 356, 389, 422, 465, 498, 531, 564, 597, 630, 643, 656, 679, 702, 745, 788, 811, 834, 847, 870, 884, 897, 920, 933]) (len := 135) (off := 920) (t := 953) (by decide +kernel) (by rw [w_of c1, e9]; decide) (by rw [w_of c1, e9]; decide) (by rw [w_of c1, e9]; rfl) (by decide) (h28 (e9.trans (by decide)))
    · exact P_tableIn (dflt := 956) (lo := 0) (hi := 29) (offs := #[135, 198, 221, 234, 257, 280, 323, 356, 389, 422, 465, 498, 531, 564, 597, 630, 643, 656, 679, 702, 745, 788, 811, 834, 847, 870, 884, 897, 920, 933]) (len := 135) (off := 933) (t := 966) (by decide +kernel) (by rw [w_of c1, e9]; decide) (by rw [w_of c1, e9]; decide) (by rw [w_of c1, e9]; rfl) (by decide) (h29 (e9.trans (by decide)))
theorem S_L_law_168 {X : CX} {d d1 : Nat} {x3 : Int} {I R : PF} {Q Q1 : PV → PF → PF → Prop} (b1 : 0 ≤ (x3 + 1) ∧ (x3 + 1) < (xN X : Int)) (n1 : xN X < 2147483648) (b2 : 0 ≤ (x3 + 2) ∧ (x3 + 2) < (xN X : Int)) (b3 : 0 ≤ (x3 + 3) ∧ (x3 + 3) < (xN X : Int)) (b4 : 0 ≤ (x3 + 4) ∧ (x3 + 4) < (xN X : Int)) (b5 : 0 ≤ (x3 + 5) ∧ (x3 + 5) < (xN X : Int)) (e1 : d1 + 1 ≤ d) (hc : CN X d1 mX10_feed [(2, 64), (0, ((xV X ((x3 + 1)).toNat).toInt)), (0, ((xV X ((x3 + 2)).toNat).toInt)), (0, ((xV X ((x3 + 3)).toNat).toInt)), (0, ((xV X ((x3 + 4)).toNat).toInt)), (0, ((xV X ((x3 + 5)).toNat).toInt))] I R Q1) (h : ∀ z I2 R2, Q1 (0, z) I2 R2 → PL X d mL_law 197 [(2, 42), (2, 64), (2, 306), (0, x3)] [(0, z)] I2 R2 Q) : PL X d mL_law 168 [(2, 42), (2, 64), (2, 306), (0, x3)] [] I R Q := by
  refine P_aload_n (n := 1) (q := 169) rfl rfl (by decide +kernel) ?_
  refine P_aload_n (n := 0) (q := 170) rfl rfl (by decide +kernel) ?_
  refine P_iload_n (n := 3) (q := 171) rfl rfl (by decide +kernel) ?_
  refine P_iconst (n := 1) (q := 172) rfl (by decide +kernel) ?_
  refine P_iadd (q := 173) rfl (by decide +kernel) ?_
  refine B_ialoadX (q := 174) b1 n1 rfl (by decide +kernel) ?_
  refine P_aload_n (n := 0) (q := 175) rfl rfl (by decide +kernel) ?_
  refine P_iload_n (n := 3) (q := 176) rfl rfl (by decide +kernel) ?_
  refine P_iconst (n := 2) (q := 177) rfl (by decide +kernel) ?_
  refine P_iadd (q := 178) rfl (by decide +kernel) ?_
  refine B_ialoadX (q := 179) b2 n1 rfl (by decide +kernel) ?_
  refine P_aload_n (n := 0) (q := 180) rfl rfl (by decide +kernel) ?_
  refine P_iload_n (n := 3) (q := 181) rfl rfl (by decide +kernel) ?_
  refine P_iconst (n := 3) (q := 182) rfl (by decide +kernel) ?_
  refine P_iadd (q := 183) rfl (by decide +kernel) ?_
  refine B_ialoadX (q := 184) b3 n1 rfl (by decide +kernel) ?_
  refine P_aload_n (n := 0) (q := 185) rfl rfl (by decide +kernel) ?_
  refine P_iload_n (n := 3) (q := 186) rfl rfl (by decide +kernel) ?_
  refine P_iconst (n := 4) (q := 187) rfl (by decide +kernel) ?_
  refine P_iadd (q := 188) rfl (by decide +kernel) ?_
  refine B_ialoadX (q := 189) b4 n1 rfl (by decide +kernel) ?_
  refine P_aload_n (n := 0) (q := 190) rfl rfl (by decide +kernel) ?_
  refine P_iload_n (n := 3) (q := 191) rfl rfl (by decide +kernel) ?_
  refine P_iconst (n := 5) (q := 192) rfl (by decide +kernel) ?_
  refine P_iadd (q := 193) rfl (by decide +kernel) ?_
  refine B_ialoadX (q := 194) b5 n1 rfl (by decide +kernel) ?_
  refine P_invV (As := [(0, ((xV X ((x3 + 1)).toNat).toInt)), (0, ((xV X ((x3 + 2)).toNat).toInt)), (0, ((xV X ((x3 + 3)).toNat).toInt)), (0, ((xV X ((x3 + 4)).toNat).toInt)), (0, ((xV X ((x3 + 5)).toNat).toInt))]) (q := 197) oX10_feed rfl kM64 kL_13 e1 hMF (Nat.le_of_ble_eq_true rfl) hc rfl (by decide +kernel) (fun z I2 R2 hq => ?_)
  exact (h z I2 R2 hq)
theorem S_L_law_197 {X : CX} {d d1 : Nat} {x3 o0 : Int} {I R : PF} {Q Q1 : PV → PF → PF → Prop} (b1 : 0 ≤ (x3 + 1) ∧ (x3 + 1) < (xN X : Int)) (n1 : xN X < 2147483648) (b2 : 0 ≤ (x3 + 2) ∧ (x3 + 2) < (xN X : Int)) (b3 : 0 ≤ (x3 + 3) ∧ (x3 + 3) < (xN X : Int)) (b4 : 0 ≤ (x3 + 4) ∧ (x3 + 4) < (xN X : Int)) (b5 : 0 ≤ (x3 + 5) ∧ (x3 + 5) < (xN X : Int)) (e1 : d1 + 1 ≤ d) (hc : CN X d1 mX11_feed [(2, 306), (0, ((xV X ((x3 + 1)).toNat).toInt)), (0, ((xV X ((x3 + 2)).toNat).toInt)), (0, ((xV X ((x3 + 3)).toNat).toInt)), (0, ((xV X ((x3 + 4)).toNat).toInt)), (0, ((xV X ((x3 + 5)).toNat).toInt))] I R Q1) (h : ∀ z I2 R2, Q1 (0, z) I2 R2 → PL X d mL_law 226 [(2, 42), (2, 64), (2, 306), (0, x3)] [(0, z), (0, o0)] I2 R2 Q) : PL X d mL_law 197 [(2, 42), (2, 64), (2, 306), (0, x3)] [(0, o0)] I R Q := by
  refine P_aload_n (n := 2) (q := 198) rfl rfl (by decide +kernel) ?_
  refine P_aload_n (n := 0) (q := 199) rfl rfl (by decide +kernel) ?_
  refine P_iload_n (n := 3) (q := 200) rfl rfl (by decide +kernel) ?_
  refine P_iconst (n := 1) (q := 201) rfl (by decide +kernel) ?_
  refine P_iadd (q := 202) rfl (by decide +kernel) ?_
  refine B_ialoadX (q := 203) b1 n1 rfl (by decide +kernel) ?_
  refine P_aload_n (n := 0) (q := 204) rfl rfl (by decide +kernel) ?_
  refine P_iload_n (n := 3) (q := 205) rfl rfl (by decide +kernel) ?_
  refine P_iconst (n := 2) (q := 206) rfl (by decide +kernel) ?_
  refine P_iadd (q := 207) rfl (by decide +kernel) ?_
  refine B_ialoadX (q := 208) b2 n1 rfl (by decide +kernel) ?_
  refine P_aload_n (n := 0) (q := 209) rfl rfl (by decide +kernel) ?_
  refine P_iload_n (n := 3) (q := 210) rfl rfl (by decide +kernel) ?_
  refine P_iconst (n := 3) (q := 211) rfl (by decide +kernel) ?_
  refine P_iadd (q := 212) rfl (by decide +kernel) ?_
  refine B_ialoadX (q := 213) b3 n1 rfl (by decide +kernel) ?_
  refine P_aload_n (n := 0) (q := 214) rfl rfl (by decide +kernel) ?_
  refine P_iload_n (n := 3) (q := 215) rfl rfl (by decide +kernel) ?_
  refine P_iconst (n := 4) (q := 216) rfl (by decide +kernel) ?_
  refine P_iadd (q := 217) rfl (by decide +kernel) ?_
  refine B_ialoadX (q := 218) b4 n1 rfl (by decide +kernel) ?_
  refine P_aload_n (n := 0) (q := 219) rfl rfl (by decide +kernel) ?_
  refine P_iload_n (n := 3) (q := 220) rfl rfl (by decide +kernel) ?_
  refine P_iconst (n := 5) (q := 221) rfl (by decide +kernel) ?_
  refine P_iadd (q := 222) rfl (by decide +kernel) ?_
  refine B_ialoadX (q := 223) b5 n1 rfl (by decide +kernel) ?_
  refine P_invV (As := [(0, ((xV X ((x3 + 1)).toNat).toInt)), (0, ((xV X ((x3 + 2)).toNat).toInt)), (0, ((xV X ((x3 + 3)).toNat).toInt)), (0, ((xV X ((x3 + 4)).toNat).toInt)), (0, ((xV X ((x3 + 5)).toNat).toInt))]) (q := 226) oX11_feed rfl kM306 kL_17 e1 hMF (Nat.le_of_ble_eq_true rfl) hc rfl (by decide +kernel) (fun z I2 R2 hq => ?_)
  exact (h z I2 R2 hq)
theorem S_L_law_226 {X : CX} {d : Nat} {x3 o0 o1 : Int} {I R : PF} {Q : PV → PF → PF → Prop} (e9 : o0 = o1) (h1 : PL X d mL_law 989 [(2, 42), (2, 64), (2, 306), (0, x3)] [] I R Q) : PL X d mL_law 226 [(2, 42), (2, 64), (2, 306), (0, x3)] [(0, o1), (0, o0)] I R Q := by
  exact P_icmp_eq (off := 763) (t := 989) (q := 229) (by decide) rfl (by decide +kernel) (fun _ => h1) (fun g9 => absurd (congrArg w32 e9) g9)
theorem S_L_law_229 {X : CX} {d : Nat} {I R : PF} {Q : PV → PF → PF → Prop} (h : Q (0, 0) I R) : PL X d mL_law 229 [] [] I R Q := by
  refine P_iconst (n := 0) (q := 230) rfl (by decide +kernel) ?_
  refine P_zret rfl (Or.inl rfl) (by decide +kernel) h
theorem S_L_law_231 {X : CX} {d d1 : Nat} {x3 : Int} {I R : PF} {Q Q1 : PV → PF → PF → Prop} (b1 : 0 ≤ (x3 + 1) ∧ (x3 + 1) < (xN X : Int)) (n1 : xN X < 2147483648) (e1 : d1 + 1 ≤ d) (hc : CN X d1 mX10_end [(2, 64), (0, ((xV X ((x3 + 1)).toNat).toInt))] I R Q1) (h : ∀ z I2 R2, Q1 (0, z) I2 R2 → PL X d mL_law 240 [(2, 42), (2, 64), (2, 306), (0, x3)] [(0, z)] I2 R2 Q) : PL X d mL_law 231 [(2, 42), (2, 64), (2, 306), (0, x3)] [] I R Q := by
  refine P_aload_n (n := 1) (q := 232) rfl rfl (by decide +kernel) ?_
  refine P_aload_n (n := 0) (q := 233) rfl rfl (by decide +kernel) ?_
  refine P_iload_n (n := 3) (q := 234) rfl rfl (by decide +kernel) ?_
  refine P_iconst (n := 1) (q := 235) rfl (by decide +kernel) ?_
  refine P_iadd (q := 236) rfl (by decide +kernel) ?_
  refine B_ialoadX (q := 237) b1 n1 rfl (by decide +kernel) ?_
  refine P_invV (As := [(0, ((xV X ((x3 + 1)).toNat).toInt))]) (q := 240) oX10_end rfl kM64 kL_18 e1 hMF (Nat.le_of_ble_eq_true rfl) hc rfl (by decide +kernel) (fun z I2 R2 hq => ?_)
  exact (h z I2 R2 hq)
theorem S_L_law_240 {X : CX} {d d1 : Nat} {x3 o0 : Int} {I R : PF} {Q Q1 : PV → PF → PF → Prop} (b1 : 0 ≤ (x3 + 1) ∧ (x3 + 1) < (xN X : Int)) (n1 : xN X < 2147483648) (e1 : d1 + 1 ≤ d) (hc : CN X d1 mX11_end [(2, 306), (0, ((xV X ((x3 + 1)).toNat).toInt))] I R Q1) (h : ∀ z I2 R2, Q1 (0, z) I2 R2 → PL X d mL_law 249 [(2, 42), (2, 64), (2, 306), (0, x3)] [(0, z), (0, o0)] I2 R2 Q) : PL X d mL_law 240 [(2, 42), (2, 64), (2, 306), (0, x3)] [(0, o0)] I R Q := by
  refine P_aload_n (n := 2) (q := 241) rfl rfl (by decide +kernel) ?_
  refine P_aload_n (n := 0) (q := 242) rfl rfl (by decide +kernel) ?_
  refine P_iload_n (n := 3) (q := 243) rfl rfl (by decide +kernel) ?_
  refine P_iconst (n := 1) (q := 244) rfl (by decide +kernel) ?_
  refine P_iadd (q := 245) rfl (by decide +kernel) ?_
  refine B_ialoadX (q := 246) b1 n1 rfl (by decide +kernel) ?_
  refine P_invV (As := [(0, ((xV X ((x3 + 1)).toNat).toInt))]) (q := 249) oX11_end rfl kM306 kL_22 e1 hMF (Nat.le_of_ble_eq_true rfl) hc rfl (by decide +kernel) (fun z I2 R2 hq => ?_)
  exact (h z I2 R2 hq)
theorem S_L_law_249 {X : CX} {d : Nat} {x3 o0 o1 : Int} {I R : PF} {Q : PV → PF → PF → Prop} (e9 : o0 = o1) (h1 : PL X d mL_law 989 [(2, 42), (2, 64), (2, 306), (0, x3)] [] I R Q) : PL X d mL_law 249 [(2, 42), (2, 64), (2, 306), (0, x3)] [(0, o1), (0, o0)] I R Q := by
  exact P_icmp_eq (off := 740) (t := 989) (q := 252) (by decide) rfl (by decide +kernel) (fun _ => h1) (fun g9 => absurd (congrArg w32 e9) g9)
theorem S_L_law_252 {X : CX} {d : Nat} {I R : PF} {Q : PV → PF → PF → Prop} (h : Q (0, 0) I R) : PL X d mL_law 252 [] [] I R Q := by
  refine P_iconst (n := 0) (q := 253) rfl (by decide +kernel) ?_
  refine P_zret rfl (Or.inl rfl) (by decide +kernel) h
theorem S_L_law_254 {X : CX} {d d1 : Nat} {x3 : Int} {I R : PF} {Q Q1 : PV → PF → PF → Prop} (e1 : d1 + 1 ≤ d) (hc : CN X d1 mX10_square [(2, 64)] I R Q1) (h : ∀ z I2 R2, Q1 (0, z) I2 R2 → PL X d mL_law 258 [(2, 42), (2, 64), (2, 306), (0, x3)] [(0, z)] I2 R2 Q) : PL X d mL_law 254 [(2, 42), (2, 64), (2, 306), (0, x3)] [] I R Q := by
  refine P_aload_n (n := 1) (q := 255) rfl rfl (by decide +kernel) ?_
  refine P_invV (As := []) (q := 258) oX10_square rfl kM64 kL_23 e1 hMF (Nat.le_of_ble_eq_true rfl) hc rfl (by decide +kernel) (fun z I2 R2 hq => ?_)
  exact (h z I2 R2 hq)
theorem S_L_law_258 {X : CX} {d d1 : Nat} {x3 o0 : Int} {I R : PF} {Q Q1 : PV → PF → PF → Prop} (e1 : d1 + 1 ≤ d) (hc : CN X d1 mX11_square [(2, 306)] I R Q1) (h : ∀ z I2 R2, Q1 (0, z) I2 R2 → PL X d mL_law 262 [(2, 42), (2, 64), (2, 306), (0, x3)] [(0, z), (0, o0)] I2 R2 Q) : PL X d mL_law 258 [(2, 42), (2, 64), (2, 306), (0, x3)] [(0, o0)] I R Q := by
  refine P_aload_n (n := 2) (q := 259) rfl rfl (by decide +kernel) ?_
  refine P_invV (As := []) (q := 262) oX11_square rfl kM306 kL_27 e1 hMF (Nat.le_of_ble_eq_true rfl) hc rfl (by decide +kernel) (fun z I2 R2 hq => ?_)
  exact (h z I2 R2 hq)
theorem S_L_law_262 {X : CX} {d : Nat} {x3 o0 o1 : Int} {I R : PF} {Q : PV → PF → PF → Prop} (e9 : o0 = o1) (h1 : PL X d mL_law 989 [(2, 42), (2, 64), (2, 306), (0, x3)] [] I R Q) : PL X d mL_law 262 [(2, 42), (2, 64), (2, 306), (0, x3)] [(0, o1), (0, o0)] I R Q := by
  exact P_icmp_eq (off := 727) (t := 989) (q := 265) (by decide) rfl (by decide +kernel) (fun _ => h1) (fun g9 => absurd (congrArg w32 e9) g9)
theorem S_L_law_265 {X : CX} {d : Nat} {I R : PF} {Q : PV → PF → PF → Prop} (h : Q (0, 0) I R) : PL X d mL_law 265 [] [] I R Q := by
  refine P_iconst (n := 0) (q := 266) rfl (by decide +kernel) ?_
  refine P_zret rfl (Or.inl rfl) (by decide +kernel) h
theorem S_L_law_267 {X : CX} {d d1 : Nat} {x3 : Int} {I R : PF} {Q Q1 : PV → PF → PF → Prop} (b1 : 0 ≤ (x3 + 1) ∧ (x3 + 1) < (xN X : Int)) (n1 : xN X < 2147483648) (e1 : d1 + 1 ≤ d) (hc : CN X d1 mX10_fault [(2, 64), (0, ((xV X ((x3 + 1)).toNat).toInt))] I R Q1) (h : ∀ z I2 R2, Q1 (0, z) I2 R2 → PL X d mL_law 276 [(2, 42), (2, 64), (2, 306), (0, x3)] [(0, z)] I2 R2 Q) : PL X d mL_law 267 [(2, 42), (2, 64), (2, 306), (0, x3)] [] I R Q := by
  refine P_aload_n (n := 1) (q := 268) rfl rfl (by decide +kernel) ?_
  refine P_aload_n (n := 0) (q := 269) rfl rfl (by decide +kernel) ?_
  refine P_iload_n (n := 3) (q := 270) rfl rfl (by decide +kernel) ?_
  refine P_iconst (n := 1) (q := 271) rfl (by decide +kernel) ?_
  refine P_iadd (q := 272) rfl (by decide +kernel) ?_
  refine B_ialoadX (q := 273) b1 n1 rfl (by decide +kernel) ?_
  refine P_invV (As := [(0, ((xV X ((x3 + 1)).toNat).toInt))]) (q := 276) oX10_fault rfl kM64 kL_28 e1 hMF (Nat.le_of_ble_eq_true rfl) hc rfl (by decide +kernel) (fun z I2 R2 hq => ?_)
  exact (h z I2 R2 hq)
theorem S_L_law_276 {X : CX} {d d1 : Nat} {x3 o0 : Int} {I R : PF} {Q Q1 : PV → PF → PF → Prop} (b1 : 0 ≤ (x3 + 1) ∧ (x3 + 1) < (xN X : Int)) (n1 : xN X < 2147483648) (e1 : d1 + 1 ≤ d) (hc : CN X d1 mX11_fault [(2, 306), (0, ((xV X ((x3 + 1)).toNat).toInt))] I R Q1) (h : ∀ z I2 R2, Q1 (0, z) I2 R2 → PL X d mL_law 285 [(2, 42), (2, 64), (2, 306), (0, x3)] [(0, z), (0, o0)] I2 R2 Q) : PL X d mL_law 276 [(2, 42), (2, 64), (2, 306), (0, x3)] [(0, o0)] I R Q := by
  refine P_aload_n (n := 2) (q := 277) rfl rfl (by decide +kernel) ?_
  refine P_aload_n (n := 0) (q := 278) rfl rfl (by decide +kernel) ?_
  refine P_iload_n (n := 3) (q := 279) rfl rfl (by decide +kernel) ?_
  refine P_iconst (n := 1) (q := 280) rfl (by decide +kernel) ?_
  refine P_iadd (q := 281) rfl (by decide +kernel) ?_
  refine B_ialoadX (q := 282) b1 n1 rfl (by decide +kernel) ?_
  refine P_invV (As := [(0, ((xV X ((x3 + 1)).toNat).toInt))]) (q := 285) oX11_fault rfl kM306 kL_32 e1 hMF (Nat.le_of_ble_eq_true rfl) hc rfl (by decide +kernel) (fun z I2 R2 hq => ?_)
  exact (h z I2 R2 hq)
theorem S_L_law_285 {X : CX} {d : Nat} {x3 o0 o1 : Int} {I R : PF} {Q : PV → PF → PF → Prop} (e9 : o0 = o1) (h1 : PL X d mL_law 989 [(2, 42), (2, 64), (2, 306), (0, x3)] [] I R Q) : PL X d mL_law 285 [(2, 42), (2, 64), (2, 306), (0, x3)] [(0, o1), (0, o0)] I R Q := by
  exact P_icmp_eq (off := 704) (t := 989) (q := 288) (by decide) rfl (by decide +kernel) (fun _ => h1) (fun g9 => absurd (congrArg w32 e9) g9)
theorem S_L_law_288 {X : CX} {d : Nat} {I R : PF} {Q : PV → PF → PF → Prop} (h : Q (0, 0) I R) : PL X d mL_law 288 [] [] I R Q := by
  refine P_iconst (n := 0) (q := 289) rfl (by decide +kernel) ?_
  refine P_zret rfl (Or.inl rfl) (by decide +kernel) h
theorem S_L_law_290 {X : CX} {d d1 : Nat} {x3 : Int} {I R : PF} {Q Q1 : PV → PF → PF → Prop} (b1 : 0 ≤ (x3 + 1) ∧ (x3 + 1) < (xN X : Int)) (n1 : xN X < 2147483648) (e1 : d1 + 1 ≤ d) (hc : CN X d1 mX10_has [(2, 64), (0, ((xV X ((x3 + 1)).toNat).toInt))] I R Q1) (h : ∀ z I2 R2, Q1 (0, z) I2 R2 → PL X d mL_law 299 [(2, 42), (2, 64), (2, 306), (0, x3)] [(0, z)] I2 R2 Q) : PL X d mL_law 290 [(2, 42), (2, 64), (2, 306), (0, x3)] [] I R Q := by
  refine P_aload_n (n := 1) (q := 291) rfl rfl (by decide +kernel) ?_
  refine P_aload_n (n := 0) (q := 292) rfl rfl (by decide +kernel) ?_
  refine P_iload_n (n := 3) (q := 293) rfl rfl (by decide +kernel) ?_
  refine P_iconst (n := 1) (q := 294) rfl (by decide +kernel) ?_
  refine P_iadd (q := 295) rfl (by decide +kernel) ?_
  refine B_ialoadX (q := 296) b1 n1 rfl (by decide +kernel) ?_
  refine P_invV (As := [(0, ((xV X ((x3 + 1)).toNat).toInt))]) (q := 299) oX10_has rfl kM64 kL_33 e1 hMF (Nat.le_of_ble_eq_true rfl) hc rfl (by decide +kernel) (fun z I2 R2 hq => ?_)
  exact (h z I2 R2 hq)
theorem S_L_law_299 {X : CX} {d d1 : Nat} {x3 o0 : Int} {I R : PF} {Q Q1 : PV → PF → PF → Prop} (b1 : 0 ≤ (x3 + 1) ∧ (x3 + 1) < (xN X : Int)) (n1 : xN X < 2147483648) (e1 : d1 + 1 ≤ d) (hc : CN X d1 mX11_has [(2, 306), (0, ((xV X ((x3 + 1)).toNat).toInt))] I R Q1) (h : ∀ z I2 R2, Q1 (0, z) I2 R2 → PL X d mL_law 308 [(2, 42), (2, 64), (2, 306), (0, x3)] [(0, z), (0, o0)] I2 R2 Q) : PL X d mL_law 299 [(2, 42), (2, 64), (2, 306), (0, x3)] [(0, o0)] I R Q := by
  refine P_aload_n (n := 2) (q := 300) rfl rfl (by decide +kernel) ?_
  refine P_aload_n (n := 0) (q := 301) rfl rfl (by decide +kernel) ?_
  refine P_iload_n (n := 3) (q := 302) rfl rfl (by decide +kernel) ?_
  refine P_iconst (n := 1) (q := 303) rfl (by decide +kernel) ?_
  refine P_iadd (q := 304) rfl (by decide +kernel) ?_
  refine B_ialoadX (q := 305) b1 n1 rfl (by decide +kernel) ?_
  refine P_invV (As := [(0, ((xV X ((x3 + 1)).toNat).toInt))]) (q := 308) oX11_has rfl kM306 kL_36 e1 hMF (Nat.le_of_ble_eq_true rfl) hc rfl (by decide +kernel) (fun z I2 R2 hq => ?_)
  exact (h z I2 R2 hq)
theorem S_L_law_308 {X : CX} {d : Nat} {x3 o0 o1 : Int} {I R : PF} {Q : PV → PF → PF → Prop} (e9 : o0 = o1) (h1 : PL X d mL_law 989 [(2, 42), (2, 64), (2, 306), (0, x3)] [] I R Q) : PL X d mL_law 308 [(2, 42), (2, 64), (2, 306), (0, x3)] [(0, o1), (0, o0)] I R Q := by
  exact P_icmp_eq (off := 681) (t := 989) (q := 311) (by decide) rfl (by decide +kernel) (fun _ => h1) (fun g9 => absurd (congrArg w32 e9) g9)
theorem S_L_law_311 {X : CX} {d : Nat} {I R : PF} {Q : PV → PF → PF → Prop} (h : Q (0, 0) I R) : PL X d mL_law 311 [] [] I R Q := by
  refine P_iconst (n := 0) (q := 312) rfl (by decide +kernel) ?_
  refine P_zret rfl (Or.inl rfl) (by decide +kernel) h
theorem S_L_law_313 {X : CX} {d d1 : Nat} {x3 : Int} {I R : PF} {Q Q1 : PV → PF → PF → Prop} (b1 : 0 ≤ (x3 + 1) ∧ (x3 + 1) < (xN X : Int)) (n1 : xN X < 2147483648) (b2 : 0 ≤ (x3 + 2) ∧ (x3 + 2) < (xN X : Int)) (b3 : 0 ≤ (x3 + 3) ∧ (x3 + 3) < (xN X : Int)) (e1 : d1 + 1 ≤ d) (hc : CN X d1 mX10_letter [(2, 64), (0, ((xV X ((x3 + 1)).toNat).toInt)), (0, ((xV X ((x3 + 2)).toNat).toInt)), (0, ((xV X ((x3 + 3)).toNat).toInt))] I R Q1) (h : ∀ z I2 R2, Q1 (0, z) I2 R2 → PL X d mL_law 332 [(2, 42), (2, 64), (2, 306), (0, x3)] [(0, z)] I2 R2 Q) : PL X d mL_law 313 [(2, 42), (2, 64), (2, 306), (0, x3)] [] I R Q := by
  refine P_aload_n (n := 1) (q := 314) rfl rfl (by decide +kernel) ?_
  refine P_aload_n (n := 0) (q := 315) rfl rfl (by decide +kernel) ?_
  refine P_iload_n (n := 3) (q := 316) rfl rfl (by decide +kernel) ?_
  refine P_iconst (n := 1) (q := 317) rfl (by decide +kernel) ?_
  refine P_iadd (q := 318) rfl (by decide +kernel) ?_
  refine B_ialoadX (q := 319) b1 n1 rfl (by decide +kernel) ?_
  refine P_aload_n (n := 0) (q := 320) rfl rfl (by decide +kernel) ?_
  refine P_iload_n (n := 3) (q := 321) rfl rfl (by decide +kernel) ?_
  refine P_iconst (n := 2) (q := 322) rfl (by decide +kernel) ?_
  refine P_iadd (q := 323) rfl (by decide +kernel) ?_
  refine B_ialoadX (q := 324) b2 n1 rfl (by decide +kernel) ?_
  refine P_aload_n (n := 0) (q := 325) rfl rfl (by decide +kernel) ?_
  refine P_iload_n (n := 3) (q := 326) rfl rfl (by decide +kernel) ?_
  refine P_iconst (n := 3) (q := 327) rfl (by decide +kernel) ?_
  refine P_iadd (q := 328) rfl (by decide +kernel) ?_
  refine B_ialoadX (q := 329) b3 n1 rfl (by decide +kernel) ?_
  refine P_invV (As := [(0, ((xV X ((x3 + 1)).toNat).toInt)), (0, ((xV X ((x3 + 2)).toNat).toInt)), (0, ((xV X ((x3 + 3)).toNat).toInt))]) (q := 332) oX10_letter rfl kM64 kL_37 e1 hMF (Nat.le_of_ble_eq_true rfl) hc rfl (by decide +kernel) (fun z I2 R2 hq => ?_)
  exact (h z I2 R2 hq)
theorem S_L_law_332 {X : CX} {d d1 : Nat} {x3 o0 : Int} {I R : PF} {Q Q1 : PV → PF → PF → Prop} (b1 : 0 ≤ (x3 + 1) ∧ (x3 + 1) < (xN X : Int)) (n1 : xN X < 2147483648) (b2 : 0 ≤ (x3 + 2) ∧ (x3 + 2) < (xN X : Int)) (b3 : 0 ≤ (x3 + 3) ∧ (x3 + 3) < (xN X : Int)) (e1 : d1 + 1 ≤ d) (hc : CN X d1 mX11_letter [(2, 306), (0, ((xV X ((x3 + 1)).toNat).toInt)), (0, ((xV X ((x3 + 2)).toNat).toInt)), (0, ((xV X ((x3 + 3)).toNat).toInt))] I R Q1) (h : ∀ z I2 R2, Q1 (0, z) I2 R2 → PL X d mL_law 351 [(2, 42), (2, 64), (2, 306), (0, x3)] [(0, z), (0, o0)] I2 R2 Q) : PL X d mL_law 332 [(2, 42), (2, 64), (2, 306), (0, x3)] [(0, o0)] I R Q := by
  refine P_aload_n (n := 2) (q := 333) rfl rfl (by decide +kernel) ?_
  refine P_aload_n (n := 0) (q := 334) rfl rfl (by decide +kernel) ?_
  refine P_iload_n (n := 3) (q := 335) rfl rfl (by decide +kernel) ?_
  refine P_iconst (n := 1) (q := 336) rfl (by decide +kernel) ?_
  refine P_iadd (q := 337) rfl (by decide +kernel) ?_
  refine B_ialoadX (q := 338) b1 n1 rfl (by decide +kernel) ?_
  refine P_aload_n (n := 0) (q := 339) rfl rfl (by decide +kernel) ?_
  refine P_iload_n (n := 3) (q := 340) rfl rfl (by decide +kernel) ?_
  refine P_iconst (n := 2) (q := 341) rfl (by decide +kernel) ?_
  refine P_iadd (q := 342) rfl (by decide +kernel) ?_
  refine B_ialoadX (q := 343) b2 n1 rfl (by decide +kernel) ?_
  refine P_aload_n (n := 0) (q := 344) rfl rfl (by decide +kernel) ?_
  refine P_iload_n (n := 3) (q := 345) rfl rfl (by decide +kernel) ?_
  refine P_iconst (n := 3) (q := 346) rfl (by decide +kernel) ?_
  refine P_iadd (q := 347) rfl (by decide +kernel) ?_
  refine B_ialoadX (q := 348) b3 n1 rfl (by decide +kernel) ?_
  refine P_invV (As := [(0, ((xV X ((x3 + 1)).toNat).toInt)), (0, ((xV X ((x3 + 2)).toNat).toInt)), (0, ((xV X ((x3 + 3)).toNat).toInt))]) (q := 351) oX11_letter rfl kM306 kL_41 e1 hMF (Nat.le_of_ble_eq_true rfl) hc rfl (by decide +kernel) (fun z I2 R2 hq => ?_)
  exact (h z I2 R2 hq)
theorem S_L_law_351 {X : CX} {d : Nat} {x3 o0 o1 : Int} {I R : PF} {Q : PV → PF → PF → Prop} (e9 : o0 = o1) (h1 : PL X d mL_law 989 [(2, 42), (2, 64), (2, 306), (0, x3)] [] I R Q) : PL X d mL_law 351 [(2, 42), (2, 64), (2, 306), (0, x3)] [(0, o1), (0, o0)] I R Q := by
  exact P_icmp_eq (off := 638) (t := 989) (q := 354) (by decide) rfl (by decide +kernel) (fun _ => h1) (fun g9 => absurd (congrArg w32 e9) g9)
theorem S_L_law_354 {X : CX} {d : Nat} {I R : PF} {Q : PV → PF → PF → Prop} (h : Q (0, 0) I R) : PL X d mL_law 354 [] [] I R Q := by
  refine P_iconst (n := 0) (q := 355) rfl (by decide +kernel) ?_
  refine P_zret rfl (Or.inl rfl) (by decide +kernel) h
theorem S_L_law_356 {X : CX} {d d1 : Nat} {x3 : Int} {I R : PF} {Q Q1 : PV → PF → PF → Prop} (b1 : 0 ≤ (x3 + 1) ∧ (x3 + 1) < (xN X : Int)) (n1 : xN X < 2147483648) (b2 : 0 ≤ (x3 + 2) ∧ (x3 + 2) < (xN X : Int)) (e1 : d1 + 1 ≤ d) (hc : CN X d1 mX10_person [(2, 64), (0, ((xV X ((x3 + 1)).toNat).toInt)), (0, ((xV X ((x3 + 2)).toNat).toInt))] I R Q1) (h : ∀ z I2 R2, Q1 (0, z) I2 R2 → PL X d mL_law 370 [(2, 42), (2, 64), (2, 306), (0, x3)] [(0, z)] I2 R2 Q) : PL X d mL_law 356 [(2, 42), (2, 64), (2, 306), (0, x3)] [] I R Q := by
  refine P_aload_n (n := 1) (q := 357) rfl rfl (by decide +kernel) ?_
  refine P_aload_n (n := 0) (q := 358) rfl rfl (by decide +kernel) ?_
  refine P_iload_n (n := 3) (q := 359) rfl rfl (by decide +kernel) ?_
  refine P_iconst (n := 1) (q := 360) rfl (by decide +kernel) ?_
  refine P_iadd (q := 361) rfl (by decide +kernel) ?_
  refine B_ialoadX (q := 362) b1 n1 rfl (by decide +kernel) ?_
  refine P_aload_n (n := 0) (q := 363) rfl rfl (by decide +kernel) ?_
  refine P_iload_n (n := 3) (q := 364) rfl rfl (by decide +kernel) ?_
  refine P_iconst (n := 2) (q := 365) rfl (by decide +kernel) ?_
  refine P_iadd (q := 366) rfl (by decide +kernel) ?_
  refine B_ialoadX (q := 367) b2 n1 rfl (by decide +kernel) ?_
  refine P_invV (As := [(0, ((xV X ((x3 + 1)).toNat).toInt)), (0, ((xV X ((x3 + 2)).toNat).toInt))]) (q := 370) oX10_person rfl kM64 kL_42 e1 hMF (Nat.le_of_ble_eq_true rfl) hc rfl (by decide +kernel) (fun z I2 R2 hq => ?_)
  exact (h z I2 R2 hq)
theorem S_L_law_370 {X : CX} {d d1 : Nat} {x3 o0 : Int} {I R : PF} {Q Q1 : PV → PF → PF → Prop} (b1 : 0 ≤ (x3 + 1) ∧ (x3 + 1) < (xN X : Int)) (n1 : xN X < 2147483648) (b2 : 0 ≤ (x3 + 2) ∧ (x3 + 2) < (xN X : Int)) (e1 : d1 + 1 ≤ d) (hc : CN X d1 mX11_person [(2, 306), (0, ((xV X ((x3 + 1)).toNat).toInt)), (0, ((xV X ((x3 + 2)).toNat).toInt))] I R Q1) (h : ∀ z I2 R2, Q1 (0, z) I2 R2 → PL X d mL_law 384 [(2, 42), (2, 64), (2, 306), (0, x3)] [(0, z), (0, o0)] I2 R2 Q) : PL X d mL_law 370 [(2, 42), (2, 64), (2, 306), (0, x3)] [(0, o0)] I R Q := by
  refine P_aload_n (n := 2) (q := 371) rfl rfl (by decide +kernel) ?_
  refine P_aload_n (n := 0) (q := 372) rfl rfl (by decide +kernel) ?_
  refine P_iload_n (n := 3) (q := 373) rfl rfl (by decide +kernel) ?_
  refine P_iconst (n := 1) (q := 374) rfl (by decide +kernel) ?_
  refine P_iadd (q := 375) rfl (by decide +kernel) ?_
  refine B_ialoadX (q := 376) b1 n1 rfl (by decide +kernel) ?_
  refine P_aload_n (n := 0) (q := 377) rfl rfl (by decide +kernel) ?_
  refine P_iload_n (n := 3) (q := 378) rfl rfl (by decide +kernel) ?_
  refine P_iconst (n := 2) (q := 379) rfl (by decide +kernel) ?_
  refine P_iadd (q := 380) rfl (by decide +kernel) ?_
  refine B_ialoadX (q := 381) b2 n1 rfl (by decide +kernel) ?_
  refine P_invV (As := [(0, ((xV X ((x3 + 1)).toNat).toInt)), (0, ((xV X ((x3 + 2)).toNat).toInt))]) (q := 384) oX11_person rfl kM306 kL_46 e1 hMF (Nat.le_of_ble_eq_true rfl) hc rfl (by decide +kernel) (fun z I2 R2 hq => ?_)
  exact (h z I2 R2 hq)
theorem S_L_law_384 {X : CX} {d : Nat} {x3 o0 o1 : Int} {I R : PF} {Q : PV → PF → PF → Prop} (e9 : o0 = o1) (h1 : PL X d mL_law 989 [(2, 42), (2, 64), (2, 306), (0, x3)] [] I R Q) : PL X d mL_law 384 [(2, 42), (2, 64), (2, 306), (0, x3)] [(0, o1), (0, o0)] I R Q := by
  exact P_icmp_eq (off := 605) (t := 989) (q := 387) (by decide) rfl (by decide +kernel) (fun _ => h1) (fun g9 => absurd (congrArg w32 e9) g9)
theorem S_L_law_387 {X : CX} {d : Nat} {I R : PF} {Q : PV → PF → PF → Prop} (h : Q (0, 0) I R) : PL X d mL_law 387 [] [] I R Q := by
  refine P_iconst (n := 0) (q := 388) rfl (by decide +kernel) ?_
  refine P_zret rfl (Or.inl rfl) (by decide +kernel) h
theorem S_L_law_389 {X : CX} {d d1 : Nat} {x3 : Int} {I R : PF} {Q Q1 : PV → PF → PF → Prop} (b1 : 0 ≤ (x3 + 1) ∧ (x3 + 1) < (xN X : Int)) (n1 : xN X < 2147483648) (b2 : 0 ≤ (x3 + 2) ∧ (x3 + 2) < (xN X : Int)) (e1 : d1 + 1 ≤ d) (hc : CN X d1 mX10_place [(2, 64), (0, ((xV X ((x3 + 1)).toNat).toInt)), (0, ((xV X ((x3 + 2)).toNat).toInt))] I R Q1) (h : ∀ z I2 R2, Q1 (0, z) I2 R2 → PL X d mL_law 403 [(2, 42), (2, 64), (2, 306), (0, x3)] [(0, z)] I2 R2 Q) : PL X d mL_law 389 [(2, 42), (2, 64), (2, 306), (0, x3)] [] I R Q := by
  refine P_aload_n (n := 1) (q := 390) rfl rfl (by decide +kernel) ?_
  refine P_aload_n (n := 0) (q := 391) rfl rfl (by decide +kernel) ?_
  refine P_iload_n (n := 3) (q := 392) rfl rfl (by decide +kernel) ?_
  refine P_iconst (n := 1) (q := 393) rfl (by decide +kernel) ?_
  refine P_iadd (q := 394) rfl (by decide +kernel) ?_
  refine B_ialoadX (q := 395) b1 n1 rfl (by decide +kernel) ?_
  refine P_aload_n (n := 0) (q := 396) rfl rfl (by decide +kernel) ?_
  refine P_iload_n (n := 3) (q := 397) rfl rfl (by decide +kernel) ?_
  refine P_iconst (n := 2) (q := 398) rfl (by decide +kernel) ?_
  refine P_iadd (q := 399) rfl (by decide +kernel) ?_
  refine B_ialoadX (q := 400) b2 n1 rfl (by decide +kernel) ?_
  refine P_invV (As := [(0, ((xV X ((x3 + 1)).toNat).toInt)), (0, ((xV X ((x3 + 2)).toNat).toInt))]) (q := 403) oX10_place rfl kM64 kL_47 e1 hMF (Nat.le_of_ble_eq_true rfl) hc rfl (by decide +kernel) (fun z I2 R2 hq => ?_)
  exact (h z I2 R2 hq)
theorem S_L_law_403 {X : CX} {d d1 : Nat} {x3 o0 : Int} {I R : PF} {Q Q1 : PV → PF → PF → Prop} (b1 : 0 ≤ (x3 + 1) ∧ (x3 + 1) < (xN X : Int)) (n1 : xN X < 2147483648) (b2 : 0 ≤ (x3 + 2) ∧ (x3 + 2) < (xN X : Int)) (e1 : d1 + 1 ≤ d) (hc : CN X d1 mX11_place [(2, 306), (0, ((xV X ((x3 + 1)).toNat).toInt)), (0, ((xV X ((x3 + 2)).toNat).toInt))] I R Q1) (h : ∀ z I2 R2, Q1 (0, z) I2 R2 → PL X d mL_law 417 [(2, 42), (2, 64), (2, 306), (0, x3)] [(0, z), (0, o0)] I2 R2 Q) : PL X d mL_law 403 [(2, 42), (2, 64), (2, 306), (0, x3)] [(0, o0)] I R Q := by
  refine P_aload_n (n := 2) (q := 404) rfl rfl (by decide +kernel) ?_
  refine P_aload_n (n := 0) (q := 405) rfl rfl (by decide +kernel) ?_
  refine P_iload_n (n := 3) (q := 406) rfl rfl (by decide +kernel) ?_
  refine P_iconst (n := 1) (q := 407) rfl (by decide +kernel) ?_
  refine P_iadd (q := 408) rfl (by decide +kernel) ?_
  refine B_ialoadX (q := 409) b1 n1 rfl (by decide +kernel) ?_
  refine P_aload_n (n := 0) (q := 410) rfl rfl (by decide +kernel) ?_
  refine P_iload_n (n := 3) (q := 411) rfl rfl (by decide +kernel) ?_
  refine P_iconst (n := 2) (q := 412) rfl (by decide +kernel) ?_
  refine P_iadd (q := 413) rfl (by decide +kernel) ?_
  refine B_ialoadX (q := 414) b2 n1 rfl (by decide +kernel) ?_
  refine P_invV (As := [(0, ((xV X ((x3 + 1)).toNat).toInt)), (0, ((xV X ((x3 + 2)).toNat).toInt))]) (q := 417) oX11_place rfl kM306 kL_50 e1 hMF (Nat.le_of_ble_eq_true rfl) hc rfl (by decide +kernel) (fun z I2 R2 hq => ?_)
  exact (h z I2 R2 hq)
theorem S_L_law_417 {X : CX} {d : Nat} {x3 o0 o1 : Int} {I R : PF} {Q : PV → PF → PF → Prop} (e9 : o0 = o1) (h1 : PL X d mL_law 989 [(2, 42), (2, 64), (2, 306), (0, x3)] [] I R Q) : PL X d mL_law 417 [(2, 42), (2, 64), (2, 306), (0, x3)] [(0, o1), (0, o0)] I R Q := by
  exact P_icmp_eq (off := 572) (t := 989) (q := 420) (by decide) rfl (by decide +kernel) (fun _ => h1) (fun g9 => absurd (congrArg w32 e9) g9)
theorem S_L_law_420 {X : CX} {d : Nat} {I R : PF} {Q : PV → PF → PF → Prop} (h : Q (0, 0) I R) : PL X d mL_law 420 [] [] I R Q := by
  refine P_iconst (n := 0) (q := 421) rfl (by decide +kernel) ?_
  refine P_zret rfl (Or.inl rfl) (by decide +kernel) h
theorem S_L_law_422 {X : CX} {d d1 : Nat} {x3 : Int} {I R : PF} {Q Q1 : PV → PF → PF → Prop} (b1 : 0 ≤ (x3 + 1) ∧ (x3 + 1) < (xN X : Int)) (n1 : xN X < 2147483648) (b2 : 0 ≤ (x3 + 2) ∧ (x3 + 2) < (xN X : Int)) (e1 : d1 + 1 ≤ d) (hc : CN X d1 mX10_kept [(2, 64), (0, ((xV X ((x3 + 1)).toNat).toInt)), (0, ((xV X ((x3 + 2)).toNat).toInt))] I R Q1) (h : ∀ z I2 R2, Q1 (0, z) I2 R2 → PL X d mL_law 436 [(2, 42), (2, 64), (2, 306), (0, x3)] [(0, z)] I2 R2 Q) : PL X d mL_law 422 [(2, 42), (2, 64), (2, 306), (0, x3)] [] I R Q := by
  refine P_aload_n (n := 1) (q := 423) rfl rfl (by decide +kernel) ?_
  refine P_aload_n (n := 0) (q := 424) rfl rfl (by decide +kernel) ?_
  refine P_iload_n (n := 3) (q := 425) rfl rfl (by decide +kernel) ?_
  refine P_iconst (n := 1) (q := 426) rfl (by decide +kernel) ?_
  refine P_iadd (q := 427) rfl (by decide +kernel) ?_
  refine B_ialoadX (q := 428) b1 n1 rfl (by decide +kernel) ?_
  refine P_aload_n (n := 0) (q := 429) rfl rfl (by decide +kernel) ?_
  refine P_iload_n (n := 3) (q := 430) rfl rfl (by decide +kernel) ?_
  refine P_iconst (n := 2) (q := 431) rfl (by decide +kernel) ?_
  refine P_iadd (q := 432) rfl (by decide +kernel) ?_
  refine B_ialoadX (q := 433) b2 n1 rfl (by decide +kernel) ?_
  refine P_invV (As := [(0, ((xV X ((x3 + 1)).toNat).toInt)), (0, ((xV X ((x3 + 2)).toNat).toInt))]) (q := 436) oX10_kept rfl kM64 kL_51 e1 hMF (Nat.le_of_ble_eq_true rfl) hc rfl (by decide +kernel) (fun z I2 R2 hq => ?_)
  exact (h z I2 R2 hq)
theorem S_L_law_436 {X : CX} {d d1 : Nat} {x3 o0 : Int} {I R : PF} {Q Q1 : PV → PF → PF → Prop} (b1 : 0 ≤ (x3 + 1) ∧ (x3 + 1) < (xN X : Int)) (n1 : xN X < 2147483648) (b2 : 0 ≤ (x3 + 2) ∧ (x3 + 2) < (xN X : Int)) (e1 : d1 + 1 ≤ d) (hc : CN X d1 mX11_kept [(2, 306), (0, ((xV X ((x3 + 1)).toNat).toInt)), (0, ((xV X ((x3 + 2)).toNat).toInt))] I R Q1) (h : ∀ z I2 R2, Q1 (0, z) I2 R2 → PL X d mL_law 450 [(2, 42), (2, 64), (2, 306), (0, x3)] [(0, z), (0, o0)] I2 R2 Q) : PL X d mL_law 436 [(2, 42), (2, 64), (2, 306), (0, x3)] [(0, o0)] I R Q := by
  refine P_aload_n (n := 2) (q := 437) rfl rfl (by decide +kernel) ?_
  refine P_aload_n (n := 0) (q := 438) rfl rfl (by decide +kernel) ?_
  refine P_iload_n (n := 3) (q := 439) rfl rfl (by decide +kernel) ?_
  refine P_iconst (n := 1) (q := 440) rfl (by decide +kernel) ?_
  refine P_iadd (q := 441) rfl (by decide +kernel) ?_
  refine B_ialoadX (q := 442) b1 n1 rfl (by decide +kernel) ?_
  refine P_aload_n (n := 0) (q := 443) rfl rfl (by decide +kernel) ?_
  refine P_iload_n (n := 3) (q := 444) rfl rfl (by decide +kernel) ?_
  refine P_iconst (n := 2) (q := 445) rfl (by decide +kernel) ?_
  refine P_iadd (q := 446) rfl (by decide +kernel) ?_
  refine B_ialoadX (q := 447) b2 n1 rfl (by decide +kernel) ?_
  refine P_invV (As := [(0, ((xV X ((x3 + 1)).toNat).toInt)), (0, ((xV X ((x3 + 2)).toNat).toInt))]) (q := 450) oX11_kept rfl kM306 kL_54 e1 hMF (Nat.le_of_ble_eq_true rfl) hc rfl (by decide +kernel) (fun z I2 R2 hq => ?_)
  exact (h z I2 R2 hq)
theorem S_L_law_450 {X : CX} {d : Nat} {x3 o0 o1 : Int} {I R : PF} {Q : PV → PF → PF → Prop} (e9 : o0 = o1) (h1 : PL X d mL_law 989 [(2, 42), (2, 64), (2, 306), (0, x3)] [] I R Q) : PL X d mL_law 450 [(2, 42), (2, 64), (2, 306), (0, x3)] [(0, o1), (0, o0)] I R Q := by
  exact P_icmp_eq (off := 539) (t := 989) (q := 453) (by decide) rfl (by decide +kernel) (fun _ => h1) (fun g9 => absurd (congrArg w32 e9) g9)
theorem S_L_law_453 {X : CX} {d : Nat} {I R : PF} {Q : PV → PF → PF → Prop} (h : Q (0, 0) I R) : PL X d mL_law 453 [] [] I R Q := by
  refine P_iconst (n := 0) (q := 454) rfl (by decide +kernel) ?_
  refine P_zret rfl (Or.inl rfl) (by decide +kernel) h
theorem S_L_law_455 {X : CX} {d d1 : Nat} {x3 : Int} {I R : PF} {Q Q1 : PV → PF → PF → Prop} (b1 : 0 ≤ (x3 + 1) ∧ (x3 + 1) < (xN X : Int)) (n1 : xN X < 2147483648) (b2 : 0 ≤ (x3 + 2) ∧ (x3 + 2) < (xN X : Int)) (b3 : 0 ≤ (x3 + 3) ∧ (x3 + 3) < (xN X : Int)) (e1 : d1 + 1 ≤ d) (hc : CN X d1 mX10_toss [(2, 64), (0, ((xV X ((x3 + 1)).toNat).toInt)), (0, ((xV X ((x3 + 2)).toNat).toInt)), (0, ((xV X ((x3 + 3)).toNat).toInt))] I R Q1) (h : ∀ z I2 R2, Q1 (0, z) I2 R2 → PL X d mL_law 474 [(2, 42), (2, 64), (2, 306), (0, x3)] [(0, z)] I2 R2 Q) : PL X d mL_law 455 [(2, 42), (2, 64), (2, 306), (0, x3)] [] I R Q := by
  refine P_aload_n (n := 1) (q := 456) rfl rfl (by decide +kernel) ?_
  refine P_aload_n (n := 0) (q := 457) rfl rfl (by decide +kernel) ?_
  refine P_iload_n (n := 3) (q := 458) rfl rfl (by decide +kernel) ?_
  refine P_iconst (n := 1) (q := 459) rfl (by decide +kernel) ?_
  refine P_iadd (q := 460) rfl (by decide +kernel) ?_
  refine B_ialoadX (q := 461) b1 n1 rfl (by decide +kernel) ?_
  refine P_aload_n (n := 0) (q := 462) rfl rfl (by decide +kernel) ?_
  refine P_iload_n (n := 3) (q := 463) rfl rfl (by decide +kernel) ?_
  refine P_iconst (n := 2) (q := 464) rfl (by decide +kernel) ?_
  refine P_iadd (q := 465) rfl (by decide +kernel) ?_
  refine B_ialoadX (q := 466) b2 n1 rfl (by decide +kernel) ?_
  refine P_aload_n (n := 0) (q := 467) rfl rfl (by decide +kernel) ?_
  refine P_iload_n (n := 3) (q := 468) rfl rfl (by decide +kernel) ?_
  refine P_iconst (n := 3) (q := 469) rfl (by decide +kernel) ?_
  refine P_iadd (q := 470) rfl (by decide +kernel) ?_
  refine B_ialoadX (q := 471) b3 n1 rfl (by decide +kernel) ?_
  refine P_invV (As := [(0, ((xV X ((x3 + 1)).toNat).toInt)), (0, ((xV X ((x3 + 2)).toNat).toInt)), (0, ((xV X ((x3 + 3)).toNat).toInt))]) (q := 474) oX10_toss rfl kM64 kL_55 e1 hMF (Nat.le_of_ble_eq_true rfl) hc rfl (by decide +kernel) (fun z I2 R2 hq => ?_)
  exact (h z I2 R2 hq)
theorem S_L_law_474 {X : CX} {d d1 : Nat} {x3 o0 : Int} {I R : PF} {Q Q1 : PV → PF → PF → Prop} (b1 : 0 ≤ (x3 + 1) ∧ (x3 + 1) < (xN X : Int)) (n1 : xN X < 2147483648) (b2 : 0 ≤ (x3 + 2) ∧ (x3 + 2) < (xN X : Int)) (b3 : 0 ≤ (x3 + 3) ∧ (x3 + 3) < (xN X : Int)) (e1 : d1 + 1 ≤ d) (hc : CN X d1 mX11_toss [(2, 306), (0, ((xV X ((x3 + 1)).toNat).toInt)), (0, ((xV X ((x3 + 2)).toNat).toInt)), (0, ((xV X ((x3 + 3)).toNat).toInt))] I R Q1) (h : ∀ z I2 R2, Q1 (0, z) I2 R2 → PL X d mL_law 493 [(2, 42), (2, 64), (2, 306), (0, x3)] [(0, z), (0, o0)] I2 R2 Q) : PL X d mL_law 474 [(2, 42), (2, 64), (2, 306), (0, x3)] [(0, o0)] I R Q := by
  refine P_aload_n (n := 2) (q := 475) rfl rfl (by decide +kernel) ?_
  refine P_aload_n (n := 0) (q := 476) rfl rfl (by decide +kernel) ?_
  refine P_iload_n (n := 3) (q := 477) rfl rfl (by decide +kernel) ?_
  refine P_iconst (n := 1) (q := 478) rfl (by decide +kernel) ?_
  refine P_iadd (q := 479) rfl (by decide +kernel) ?_
  refine B_ialoadX (q := 480) b1 n1 rfl (by decide +kernel) ?_
  refine P_aload_n (n := 0) (q := 481) rfl rfl (by decide +kernel) ?_
  refine P_iload_n (n := 3) (q := 482) rfl rfl (by decide +kernel) ?_
  refine P_iconst (n := 2) (q := 483) rfl (by decide +kernel) ?_
  refine P_iadd (q := 484) rfl (by decide +kernel) ?_
  refine B_ialoadX (q := 485) b2 n1 rfl (by decide +kernel) ?_
  refine P_aload_n (n := 0) (q := 486) rfl rfl (by decide +kernel) ?_
  refine P_iload_n (n := 3) (q := 487) rfl rfl (by decide +kernel) ?_
  refine P_iconst (n := 3) (q := 488) rfl (by decide +kernel) ?_
  refine P_iadd (q := 489) rfl (by decide +kernel) ?_
  refine B_ialoadX (q := 490) b3 n1 rfl (by decide +kernel) ?_
  refine P_invV (As := [(0, ((xV X ((x3 + 1)).toNat).toInt)), (0, ((xV X ((x3 + 2)).toNat).toInt)), (0, ((xV X ((x3 + 3)).toNat).toInt))]) (q := 493) oX11_toss rfl kM306 kL_58 e1 hMF (Nat.le_of_ble_eq_true rfl) hc rfl (by decide +kernel) (fun z I2 R2 hq => ?_)
  exact (h z I2 R2 hq)
theorem S_L_law_493 {X : CX} {d : Nat} {x3 o0 o1 : Int} {I R : PF} {Q : PV → PF → PF → Prop} (e9 : o0 = o1) (h1 : PL X d mL_law 989 [(2, 42), (2, 64), (2, 306), (0, x3)] [] I R Q) : PL X d mL_law 493 [(2, 42), (2, 64), (2, 306), (0, x3)] [(0, o1), (0, o0)] I R Q := by
  exact P_icmp_eq (off := 496) (t := 989) (q := 496) (by decide) rfl (by decide +kernel) (fun _ => h1) (fun g9 => absurd (congrArg w32 e9) g9)
theorem S_L_law_496 {X : CX} {d : Nat} {I R : PF} {Q : PV → PF → PF → Prop} (h : Q (0, 0) I R) : PL X d mL_law 496 [] [] I R Q := by
  refine P_iconst (n := 0) (q := 497) rfl (by decide +kernel) ?_
  refine P_zret rfl (Or.inl rfl) (by decide +kernel) h
theorem S_L_law_498 {X : CX} {d d1 : Nat} {x3 : Int} {I R : PF} {Q Q1 : PV → PF → PF → Prop} (b1 : 0 ≤ (x3 + 1) ∧ (x3 + 1) < (xN X : Int)) (n1 : xN X < 2147483648) (b2 : 0 ≤ (x3 + 2) ∧ (x3 + 2) < (xN X : Int)) (e1 : d1 + 1 ≤ d) (hc : CN X d1 mX10_likely [(2, 64), (0, ((xV X ((x3 + 1)).toNat).toInt)), (0, ((xV X ((x3 + 2)).toNat).toInt))] I R Q1) (h : ∀ z I2 R2, Q1 (0, z) I2 R2 → PL X d mL_law 512 [(2, 42), (2, 64), (2, 306), (0, x3)] [(0, z)] I2 R2 Q) : PL X d mL_law 498 [(2, 42), (2, 64), (2, 306), (0, x3)] [] I R Q := by
  refine P_aload_n (n := 1) (q := 499) rfl rfl (by decide +kernel) ?_
  refine P_aload_n (n := 0) (q := 500) rfl rfl (by decide +kernel) ?_
  refine P_iload_n (n := 3) (q := 501) rfl rfl (by decide +kernel) ?_
  refine P_iconst (n := 1) (q := 502) rfl (by decide +kernel) ?_
  refine P_iadd (q := 503) rfl (by decide +kernel) ?_
  refine B_ialoadX (q := 504) b1 n1 rfl (by decide +kernel) ?_
  refine P_aload_n (n := 0) (q := 505) rfl rfl (by decide +kernel) ?_
  refine P_iload_n (n := 3) (q := 506) rfl rfl (by decide +kernel) ?_
  refine P_iconst (n := 2) (q := 507) rfl (by decide +kernel) ?_
  refine P_iadd (q := 508) rfl (by decide +kernel) ?_
  refine B_ialoadX (q := 509) b2 n1 rfl (by decide +kernel) ?_
  refine P_invV (As := [(0, ((xV X ((x3 + 1)).toNat).toInt)), (0, ((xV X ((x3 + 2)).toNat).toInt))]) (q := 512) oX10_likely rfl kM64 kL_59 e1 hMF (Nat.le_of_ble_eq_true rfl) hc rfl (by decide +kernel) (fun z I2 R2 hq => ?_)
  exact (h z I2 R2 hq)
theorem S_L_law_512 {X : CX} {d d1 : Nat} {x3 o0 : Int} {I R : PF} {Q Q1 : PV → PF → PF → Prop} (b1 : 0 ≤ (x3 + 1) ∧ (x3 + 1) < (xN X : Int)) (n1 : xN X < 2147483648) (b2 : 0 ≤ (x3 + 2) ∧ (x3 + 2) < (xN X : Int)) (e1 : d1 + 1 ≤ d) (hc : CN X d1 mX11_likely [(2, 306), (0, ((xV X ((x3 + 1)).toNat).toInt)), (0, ((xV X ((x3 + 2)).toNat).toInt))] I R Q1) (h : ∀ z I2 R2, Q1 (0, z) I2 R2 → PL X d mL_law 526 [(2, 42), (2, 64), (2, 306), (0, x3)] [(0, z), (0, o0)] I2 R2 Q) : PL X d mL_law 512 [(2, 42), (2, 64), (2, 306), (0, x3)] [(0, o0)] I R Q := by
  refine P_aload_n (n := 2) (q := 513) rfl rfl (by decide +kernel) ?_
  refine P_aload_n (n := 0) (q := 514) rfl rfl (by decide +kernel) ?_
  refine P_iload_n (n := 3) (q := 515) rfl rfl (by decide +kernel) ?_
  refine P_iconst (n := 1) (q := 516) rfl (by decide +kernel) ?_
  refine P_iadd (q := 517) rfl (by decide +kernel) ?_
  refine B_ialoadX (q := 518) b1 n1 rfl (by decide +kernel) ?_
  refine P_aload_n (n := 0) (q := 519) rfl rfl (by decide +kernel) ?_
  refine P_iload_n (n := 3) (q := 520) rfl rfl (by decide +kernel) ?_
  refine P_iconst (n := 2) (q := 521) rfl (by decide +kernel) ?_
  refine P_iadd (q := 522) rfl (by decide +kernel) ?_
  refine B_ialoadX (q := 523) b2 n1 rfl (by decide +kernel) ?_
  refine P_invV (As := [(0, ((xV X ((x3 + 1)).toNat).toInt)), (0, ((xV X ((x3 + 2)).toNat).toInt))]) (q := 526) oX11_likely rfl kM306 kL_62 e1 hMF (Nat.le_of_ble_eq_true rfl) hc rfl (by decide +kernel) (fun z I2 R2 hq => ?_)
  exact (h z I2 R2 hq)
theorem S_L_law_526 {X : CX} {d : Nat} {x3 o0 o1 : Int} {I R : PF} {Q : PV → PF → PF → Prop} (e9 : o0 = o1) (h1 : PL X d mL_law 989 [(2, 42), (2, 64), (2, 306), (0, x3)] [] I R Q) : PL X d mL_law 526 [(2, 42), (2, 64), (2, 306), (0, x3)] [(0, o1), (0, o0)] I R Q := by
  exact P_icmp_eq (off := 463) (t := 989) (q := 529) (by decide) rfl (by decide +kernel) (fun _ => h1) (fun g9 => absurd (congrArg w32 e9) g9)
theorem S_L_law_529 {X : CX} {d : Nat} {I R : PF} {Q : PV → PF → PF → Prop} (h : Q (0, 0) I R) : PL X d mL_law 529 [] [] I R Q := by
  refine P_iconst (n := 0) (q := 530) rfl (by decide +kernel) ?_
  refine P_zret rfl (Or.inl rfl) (by decide +kernel) h
theorem S_L_law_531 {X : CX} {d d1 : Nat} {x3 : Int} {I R : PF} {Q Q1 : PV → PF → PF → Prop} (b1 : 0 ≤ (x3 + 1) ∧ (x3 + 1) < (xN X : Int)) (n1 : xN X < 2147483648) (b2 : 0 ≤ (x3 + 2) ∧ (x3 + 2) < (xN X : Int)) (e1 : d1 + 1 ≤ d) (hc : CN X d1 mX10_stand [(2, 64), (0, ((xV X ((x3 + 1)).toNat).toInt)), (0, ((xV X ((x3 + 2)).toNat).toInt))] I R Q1) (h : ∀ z I2 R2, Q1 (0, z) I2 R2 → PL X d mL_law 545 [(2, 42), (2, 64), (2, 306), (0, x3)] [(0, z)] I2 R2 Q) : PL X d mL_law 531 [(2, 42), (2, 64), (2, 306), (0, x3)] [] I R Q := by
  refine P_aload_n (n := 1) (q := 532) rfl rfl (by decide +kernel) ?_
  refine P_aload_n (n := 0) (q := 533) rfl rfl (by decide +kernel) ?_
  refine P_iload_n (n := 3) (q := 534) rfl rfl (by decide +kernel) ?_
  refine P_iconst (n := 1) (q := 535) rfl (by decide +kernel) ?_
  refine P_iadd (q := 536) rfl (by decide +kernel) ?_
  refine B_ialoadX (q := 537) b1 n1 rfl (by decide +kernel) ?_
  refine P_aload_n (n := 0) (q := 538) rfl rfl (by decide +kernel) ?_
  refine P_iload_n (n := 3) (q := 539) rfl rfl (by decide +kernel) ?_
  refine P_iconst (n := 2) (q := 540) rfl (by decide +kernel) ?_
  refine P_iadd (q := 541) rfl (by decide +kernel) ?_
  refine B_ialoadX (q := 542) b2 n1 rfl (by decide +kernel) ?_
  refine P_invV (As := [(0, ((xV X ((x3 + 1)).toNat).toInt)), (0, ((xV X ((x3 + 2)).toNat).toInt))]) (q := 545) oX10_stand rfl kM64 kL_63 e1 hMF (Nat.le_of_ble_eq_true rfl) hc rfl (by decide +kernel) (fun z I2 R2 hq => ?_)
  exact (h z I2 R2 hq)
theorem S_L_law_545 {X : CX} {d d1 : Nat} {x3 o0 : Int} {I R : PF} {Q Q1 : PV → PF → PF → Prop} (b1 : 0 ≤ (x3 + 1) ∧ (x3 + 1) < (xN X : Int)) (n1 : xN X < 2147483648) (b2 : 0 ≤ (x3 + 2) ∧ (x3 + 2) < (xN X : Int)) (e1 : d1 + 1 ≤ d) (hc : CN X d1 mX11_stand [(2, 306), (0, ((xV X ((x3 + 1)).toNat).toInt)), (0, ((xV X ((x3 + 2)).toNat).toInt))] I R Q1) (h : ∀ z I2 R2, Q1 (0, z) I2 R2 → PL X d mL_law 559 [(2, 42), (2, 64), (2, 306), (0, x3)] [(0, z), (0, o0)] I2 R2 Q) : PL X d mL_law 545 [(2, 42), (2, 64), (2, 306), (0, x3)] [(0, o0)] I R Q := by
  refine P_aload_n (n := 2) (q := 546) rfl rfl (by decide +kernel) ?_
  refine P_aload_n (n := 0) (q := 547) rfl rfl (by decide +kernel) ?_
  refine P_iload_n (n := 3) (q := 548) rfl rfl (by decide +kernel) ?_
  refine P_iconst (n := 1) (q := 549) rfl (by decide +kernel) ?_
  refine P_iadd (q := 550) rfl (by decide +kernel) ?_
  refine B_ialoadX (q := 551) b1 n1 rfl (by decide +kernel) ?_
  refine P_aload_n (n := 0) (q := 552) rfl rfl (by decide +kernel) ?_
  refine P_iload_n (n := 3) (q := 553) rfl rfl (by decide +kernel) ?_
  refine P_iconst (n := 2) (q := 554) rfl (by decide +kernel) ?_
  refine P_iadd (q := 555) rfl (by decide +kernel) ?_
  refine B_ialoadX (q := 556) b2 n1 rfl (by decide +kernel) ?_
  refine P_invV (As := [(0, ((xV X ((x3 + 1)).toNat).toInt)), (0, ((xV X ((x3 + 2)).toNat).toInt))]) (q := 559) oX11_stand rfl kM306 kL_66 e1 hMF (Nat.le_of_ble_eq_true rfl) hc rfl (by decide +kernel) (fun z I2 R2 hq => ?_)
  exact (h z I2 R2 hq)
theorem S_L_law_559 {X : CX} {d : Nat} {x3 o0 o1 : Int} {I R : PF} {Q : PV → PF → PF → Prop} (e9 : o0 = o1) (h1 : PL X d mL_law 989 [(2, 42), (2, 64), (2, 306), (0, x3)] [] I R Q) : PL X d mL_law 559 [(2, 42), (2, 64), (2, 306), (0, x3)] [(0, o1), (0, o0)] I R Q := by
  exact P_icmp_eq (off := 430) (t := 989) (q := 562) (by decide) rfl (by decide +kernel) (fun _ => h1) (fun g9 => absurd (congrArg w32 e9) g9)
theorem S_L_law_562 {X : CX} {d : Nat} {I R : PF} {Q : PV → PF → PF → Prop} (h : Q (0, 0) I R) : PL X d mL_law 562 [] [] I R Q := by
  refine P_iconst (n := 0) (q := 563) rfl (by decide +kernel) ?_
  refine P_zret rfl (Or.inl rfl) (by decide +kernel) h
theorem S_L_law_564 {X : CX} {d d1 : Nat} {x3 : Int} {I R : PF} {Q Q1 : PV → PF → PF → Prop} (b1 : 0 ≤ (x3 + 1) ∧ (x3 + 1) < (xN X : Int)) (n1 : xN X < 2147483648) (b2 : 0 ≤ (x3 + 2) ∧ (x3 + 2) < (xN X : Int)) (e1 : d1 + 1 ≤ d) (hc : CN X d1 mX10_change [(2, 64), (0, ((xV X ((x3 + 1)).toNat).toInt)), (0, ((xV X ((x3 + 2)).toNat).toInt))] I R Q1) (h : ∀ z I2 R2, Q1 (0, z) I2 R2 → PL X d mL_law 578 [(2, 42), (2, 64), (2, 306), (0, x3)] [(0, z)] I2 R2 Q) : PL X d mL_law 564 [(2, 42), (2, 64), (2, 306), (0, x3)] [] I R Q := by
  refine P_aload_n (n := 1) (q := 565) rfl rfl (by decide +kernel) ?_
  refine P_aload_n (n := 0) (q := 566) rfl rfl (by decide +kernel) ?_
  refine P_iload_n (n := 3) (q := 567) rfl rfl (by decide +kernel) ?_
  refine P_iconst (n := 1) (q := 568) rfl (by decide +kernel) ?_
  refine P_iadd (q := 569) rfl (by decide +kernel) ?_
  refine B_ialoadX (q := 570) b1 n1 rfl (by decide +kernel) ?_
  refine P_aload_n (n := 0) (q := 571) rfl rfl (by decide +kernel) ?_
  refine P_iload_n (n := 3) (q := 572) rfl rfl (by decide +kernel) ?_
  refine P_iconst (n := 2) (q := 573) rfl (by decide +kernel) ?_
  refine P_iadd (q := 574) rfl (by decide +kernel) ?_
  refine B_ialoadX (q := 575) b2 n1 rfl (by decide +kernel) ?_
  refine P_invV (As := [(0, ((xV X ((x3 + 1)).toNat).toInt)), (0, ((xV X ((x3 + 2)).toNat).toInt))]) (q := 578) oX10_change rfl kM64 kL_67 e1 hMF (Nat.le_of_ble_eq_true rfl) hc rfl (by decide +kernel) (fun z I2 R2 hq => ?_)
  exact (h z I2 R2 hq)
theorem S_L_law_578 {X : CX} {d d1 : Nat} {x3 o0 : Int} {I R : PF} {Q Q1 : PV → PF → PF → Prop} (b1 : 0 ≤ (x3 + 1) ∧ (x3 + 1) < (xN X : Int)) (n1 : xN X < 2147483648) (b2 : 0 ≤ (x3 + 2) ∧ (x3 + 2) < (xN X : Int)) (e1 : d1 + 1 ≤ d) (hc : CN X d1 mX11_change [(2, 306), (0, ((xV X ((x3 + 1)).toNat).toInt)), (0, ((xV X ((x3 + 2)).toNat).toInt))] I R Q1) (h : ∀ z I2 R2, Q1 (0, z) I2 R2 → PL X d mL_law 592 [(2, 42), (2, 64), (2, 306), (0, x3)] [(0, z), (0, o0)] I2 R2 Q) : PL X d mL_law 578 [(2, 42), (2, 64), (2, 306), (0, x3)] [(0, o0)] I R Q := by
  refine P_aload_n (n := 2) (q := 579) rfl rfl (by decide +kernel) ?_
  refine P_aload_n (n := 0) (q := 580) rfl rfl (by decide +kernel) ?_
  refine P_iload_n (n := 3) (q := 581) rfl rfl (by decide +kernel) ?_
  refine P_iconst (n := 1) (q := 582) rfl (by decide +kernel) ?_
  refine P_iadd (q := 583) rfl (by decide +kernel) ?_
  refine B_ialoadX (q := 584) b1 n1 rfl (by decide +kernel) ?_
  refine P_aload_n (n := 0) (q := 585) rfl rfl (by decide +kernel) ?_
  refine P_iload_n (n := 3) (q := 586) rfl rfl (by decide +kernel) ?_
  refine P_iconst (n := 2) (q := 587) rfl (by decide +kernel) ?_
  refine P_iadd (q := 588) rfl (by decide +kernel) ?_
  refine B_ialoadX (q := 589) b2 n1 rfl (by decide +kernel) ?_
  refine P_invV (As := [(0, ((xV X ((x3 + 1)).toNat).toInt)), (0, ((xV X ((x3 + 2)).toNat).toInt))]) (q := 592) oX11_change rfl kM306 kL_70 e1 hMF (Nat.le_of_ble_eq_true rfl) hc rfl (by decide +kernel) (fun z I2 R2 hq => ?_)
  exact (h z I2 R2 hq)
theorem S_L_law_592 {X : CX} {d : Nat} {x3 o0 o1 : Int} {I R : PF} {Q : PV → PF → PF → Prop} (e9 : o0 = o1) (h1 : PL X d mL_law 989 [(2, 42), (2, 64), (2, 306), (0, x3)] [] I R Q) : PL X d mL_law 592 [(2, 42), (2, 64), (2, 306), (0, x3)] [(0, o1), (0, o0)] I R Q := by
  exact P_icmp_eq (off := 397) (t := 989) (q := 595) (by decide) rfl (by decide +kernel) (fun _ => h1) (fun g9 => absurd (congrArg w32 e9) g9)
theorem S_L_law_595 {X : CX} {d : Nat} {I R : PF} {Q : PV → PF → PF → Prop} (h : Q (0, 0) I R) : PL X d mL_law 595 [] [] I R Q := by
  refine P_iconst (n := 0) (q := 596) rfl (by decide +kernel) ?_
  refine P_zret rfl (Or.inl rfl) (by decide +kernel) h
theorem S_L_law_597 {X : CX} {d d1 : Nat} {x3 : Int} {I R : PF} {Q Q1 : PV → PF → PF → Prop} (b1 : 0 ≤ (x3 + 1) ∧ (x3 + 1) < (xN X : Int)) (n1 : xN X < 2147483648) (b2 : 0 ≤ (x3 + 2) ∧ (x3 + 2) < (xN X : Int)) (e1 : d1 + 1 ≤ d) (hc : CN X d1 mX10_later [(2, 64), (0, ((xV X ((x3 + 1)).toNat).toInt)), (0, ((xV X ((x3 + 2)).toNat).toInt))] I R Q1) (h : ∀ z I2 R2, Q1 (0, z) I2 R2 → PL X d mL_law 611 [(2, 42), (2, 64), (2, 306), (0, x3)] [(0, z)] I2 R2 Q) : PL X d mL_law 597 [(2, 42), (2, 64), (2, 306), (0, x3)] [] I R Q := by
  refine P_aload_n (n := 1) (q := 598) rfl rfl (by decide +kernel) ?_
  refine P_aload_n (n := 0) (q := 599) rfl rfl (by decide +kernel) ?_
  refine P_iload_n (n := 3) (q := 600) rfl rfl (by decide +kernel) ?_
  refine P_iconst (n := 1) (q := 601) rfl (by decide +kernel) ?_
  refine P_iadd (q := 602) rfl (by decide +kernel) ?_
  refine B_ialoadX (q := 603) b1 n1 rfl (by decide +kernel) ?_
  refine P_aload_n (n := 0) (q := 604) rfl rfl (by decide +kernel) ?_
  refine P_iload_n (n := 3) (q := 605) rfl rfl (by decide +kernel) ?_
  refine P_iconst (n := 2) (q := 606) rfl (by decide +kernel) ?_
  refine P_iadd (q := 607) rfl (by decide +kernel) ?_
  refine B_ialoadX (q := 608) b2 n1 rfl (by decide +kernel) ?_
  refine P_invV (As := [(0, ((xV X ((x3 + 1)).toNat).toInt)), (0, ((xV X ((x3 + 2)).toNat).toInt))]) (q := 611) oX10_later rfl kM64 kL_71 e1 hMF (Nat.le_of_ble_eq_true rfl) hc rfl (by decide +kernel) (fun z I2 R2 hq => ?_)
  exact (h z I2 R2 hq)
theorem S_L_law_611 {X : CX} {d d1 : Nat} {x3 o0 : Int} {I R : PF} {Q Q1 : PV → PF → PF → Prop} (b1 : 0 ≤ (x3 + 1) ∧ (x3 + 1) < (xN X : Int)) (n1 : xN X < 2147483648) (b2 : 0 ≤ (x3 + 2) ∧ (x3 + 2) < (xN X : Int)) (e1 : d1 + 1 ≤ d) (hc : CN X d1 mX11_later [(2, 306), (0, ((xV X ((x3 + 1)).toNat).toInt)), (0, ((xV X ((x3 + 2)).toNat).toInt))] I R Q1) (h : ∀ z I2 R2, Q1 (0, z) I2 R2 → PL X d mL_law 625 [(2, 42), (2, 64), (2, 306), (0, x3)] [(0, z), (0, o0)] I2 R2 Q) : PL X d mL_law 611 [(2, 42), (2, 64), (2, 306), (0, x3)] [(0, o0)] I R Q := by
  refine P_aload_n (n := 2) (q := 612) rfl rfl (by decide +kernel) ?_
  refine P_aload_n (n := 0) (q := 613) rfl rfl (by decide +kernel) ?_
  refine P_iload_n (n := 3) (q := 614) rfl rfl (by decide +kernel) ?_
  refine P_iconst (n := 1) (q := 615) rfl (by decide +kernel) ?_
  refine P_iadd (q := 616) rfl (by decide +kernel) ?_
  refine B_ialoadX (q := 617) b1 n1 rfl (by decide +kernel) ?_
  refine P_aload_n (n := 0) (q := 618) rfl rfl (by decide +kernel) ?_
  refine P_iload_n (n := 3) (q := 619) rfl rfl (by decide +kernel) ?_
  refine P_iconst (n := 2) (q := 620) rfl (by decide +kernel) ?_
  refine P_iadd (q := 621) rfl (by decide +kernel) ?_
  refine B_ialoadX (q := 622) b2 n1 rfl (by decide +kernel) ?_
  refine P_invV (As := [(0, ((xV X ((x3 + 1)).toNat).toInt)), (0, ((xV X ((x3 + 2)).toNat).toInt))]) (q := 625) oX11_later rfl kM306 kL_74 e1 hMF (Nat.le_of_ble_eq_true rfl) hc rfl (by decide +kernel) (fun z I2 R2 hq => ?_)
  exact (h z I2 R2 hq)
theorem S_L_law_625 {X : CX} {d : Nat} {x3 o0 o1 : Int} {I R : PF} {Q : PV → PF → PF → Prop} (e9 : o0 = o1) (h1 : PL X d mL_law 989 [(2, 42), (2, 64), (2, 306), (0, x3)] [] I R Q) : PL X d mL_law 625 [(2, 42), (2, 64), (2, 306), (0, x3)] [(0, o1), (0, o0)] I R Q := by
  exact P_icmp_eq (off := 364) (t := 989) (q := 628) (by decide) rfl (by decide +kernel) (fun _ => h1) (fun g9 => absurd (congrArg w32 e9) g9)
theorem S_L_law_628 {X : CX} {d : Nat} {I R : PF} {Q : PV → PF → PF → Prop} (h : Q (0, 0) I R) : PL X d mL_law 628 [] [] I R Q := by
  refine P_iconst (n := 0) (q := 629) rfl (by decide +kernel) ?_
  refine P_zret rfl (Or.inl rfl) (by decide +kernel) h
theorem S_L_law_630 {X : CX} {d d1 : Nat} {x3 : Int} {I R : PF} {Q Q1 : PV → PF → PF → Prop} (b1 : 0 ≤ (x3 + 1) ∧ (x3 + 1) < (xN X : Int)) (n1 : xN X < 2147483648) (b2 : 0 ≤ (x3 + 2) ∧ (x3 + 2) < (xN X : Int)) (e1 : d1 + 1 ≤ d) (hc : CN X d1 mX10_lasts [(2, 64), (0, ((xV X ((x3 + 1)).toNat).toInt)), (0, ((xV X ((x3 + 2)).toNat).toInt))] I R Q1) (h : ∀ z I2 R2, Q1 (0, z) I2 R2 → PL X d mL_law 644 [(2, 42), (2, 64), (2, 306), (0, x3)] [(0, z)] I2 R2 Q) : PL X d mL_law 630 [(2, 42), (2, 64), (2, 306), (0, x3)] [] I R Q := by
  refine P_aload_n (n := 1) (q := 631) rfl rfl (by decide +kernel) ?_
  refine P_aload_n (n := 0) (q := 632) rfl rfl (by decide +kernel) ?_
  refine P_iload_n (n := 3) (q := 633) rfl rfl (by decide +kernel) ?_
  refine P_iconst (n := 1) (q := 634) rfl (by decide +kernel) ?_
  refine P_iadd (q := 635) rfl (by decide +kernel) ?_
  refine B_ialoadX (q := 636) b1 n1 rfl (by decide +kernel) ?_
  refine P_aload_n (n := 0) (q := 637) rfl rfl (by decide +kernel) ?_
  refine P_iload_n (n := 3) (q := 638) rfl rfl (by decide +kernel) ?_
  refine P_iconst (n := 2) (q := 639) rfl (by decide +kernel) ?_
  refine P_iadd (q := 640) rfl (by decide +kernel) ?_
  refine B_ialoadX (q := 641) b2 n1 rfl (by decide +kernel) ?_
  refine P_invV (As := [(0, ((xV X ((x3 + 1)).toNat).toInt)), (0, ((xV X ((x3 + 2)).toNat).toInt))]) (q := 644) oX10_lasts rfl kM64 kL_75 e1 hMF (Nat.le_of_ble_eq_true rfl) hc rfl (by decide +kernel) (fun z I2 R2 hq => ?_)
  exact (h z I2 R2 hq)
theorem S_L_law_644 {X : CX} {d d1 : Nat} {x3 o0 : Int} {I R : PF} {Q Q1 : PV → PF → PF → Prop} (b1 : 0 ≤ (x3 + 1) ∧ (x3 + 1) < (xN X : Int)) (n1 : xN X < 2147483648) (b2 : 0 ≤ (x3 + 2) ∧ (x3 + 2) < (xN X : Int)) (e1 : d1 + 1 ≤ d) (hc : CN X d1 mX11_lasts [(2, 306), (0, ((xV X ((x3 + 1)).toNat).toInt)), (0, ((xV X ((x3 + 2)).toNat).toInt))] I R Q1) (h : ∀ z I2 R2, Q1 (0, z) I2 R2 → PL X d mL_law 658 [(2, 42), (2, 64), (2, 306), (0, x3)] [(0, z), (0, o0)] I2 R2 Q) : PL X d mL_law 644 [(2, 42), (2, 64), (2, 306), (0, x3)] [(0, o0)] I R Q := by
  refine P_aload_n (n := 2) (q := 645) rfl rfl (by decide +kernel) ?_
  refine P_aload_n (n := 0) (q := 646) rfl rfl (by decide +kernel) ?_
  refine P_iload_n (n := 3) (q := 647) rfl rfl (by decide +kernel) ?_
  refine P_iconst (n := 1) (q := 648) rfl (by decide +kernel) ?_
  refine P_iadd (q := 649) rfl (by decide +kernel) ?_
  refine B_ialoadX (q := 650) b1 n1 rfl (by decide +kernel) ?_
  refine P_aload_n (n := 0) (q := 651) rfl rfl (by decide +kernel) ?_
  refine P_iload_n (n := 3) (q := 652) rfl rfl (by decide +kernel) ?_
  refine P_iconst (n := 2) (q := 653) rfl (by decide +kernel) ?_
  refine P_iadd (q := 654) rfl (by decide +kernel) ?_
  refine B_ialoadX (q := 655) b2 n1 rfl (by decide +kernel) ?_
  refine P_invV (As := [(0, ((xV X ((x3 + 1)).toNat).toInt)), (0, ((xV X ((x3 + 2)).toNat).toInt))]) (q := 658) oX11_lasts rfl kM306 kL_78 e1 hMF (Nat.le_of_ble_eq_true rfl) hc rfl (by decide +kernel) (fun z I2 R2 hq => ?_)
  exact (h z I2 R2 hq)
theorem S_L_law_658 {X : CX} {d : Nat} {x3 o0 o1 : Int} {I R : PF} {Q : PV → PF → PF → Prop} (e9 : o0 = o1) (h1 : PL X d mL_law 989 [(2, 42), (2, 64), (2, 306), (0, x3)] [] I R Q) : PL X d mL_law 658 [(2, 42), (2, 64), (2, 306), (0, x3)] [(0, o1), (0, o0)] I R Q := by
  exact P_icmp_eq (off := 331) (t := 989) (q := 661) (by decide) rfl (by decide +kernel) (fun _ => h1) (fun g9 => absurd (congrArg w32 e9) g9)
theorem S_L_law_661 {X : CX} {d : Nat} {I R : PF} {Q : PV → PF → PF → Prop} (h : Q (0, 0) I R) : PL X d mL_law 661 [] [] I R Q := by
  refine P_iconst (n := 0) (q := 662) rfl (by decide +kernel) ?_
  refine P_zret rfl (Or.inl rfl) (by decide +kernel) h
theorem S_L_law_663 {X : CX} {d d1 : Nat} {x3 : Int} {I R : PF} {Q Q1 : PV → PF → PF → Prop} (e1 : d1 + 1 ≤ d) (hc : CN X d1 mX10_hatless [(2, 64)] I R Q1) (h : ∀ z I2 R2, Q1 (0, z) I2 R2 → PL X d mL_law 667 [(2, 42), (2, 64), (2, 306), (0, x3)] [(0, z)] I2 R2 Q) : PL X d mL_law 663 [(2, 42), (2, 64), (2, 306), (0, x3)] [] I R Q := by
  refine P_aload_n (n := 1) (q := 664) rfl rfl (by decide +kernel) ?_
  refine P_invV (As := []) (q := 667) oX10_hatless rfl kM64 kL_79 e1 hMF (Nat.le_of_ble_eq_true rfl) hc rfl (by decide +kernel) (fun z I2 R2 hq => ?_)
  exact (h z I2 R2 hq)
theorem S_L_law_667 {X : CX} {d d1 : Nat} {x3 o0 : Int} {I R : PF} {Q Q1 : PV → PF → PF → Prop} (e1 : d1 + 1 ≤ d) (hc : CN X d1 mX11_hatless [(2, 306)] I R Q1) (h : ∀ z I2 R2, Q1 (0, z) I2 R2 → PL X d mL_law 671 [(2, 42), (2, 64), (2, 306), (0, x3)] [(0, z), (0, o0)] I2 R2 Q) : PL X d mL_law 667 [(2, 42), (2, 64), (2, 306), (0, x3)] [(0, o0)] I R Q := by
  refine P_aload_n (n := 2) (q := 668) rfl rfl (by decide +kernel) ?_
  refine P_invV (As := []) (q := 671) oX11_hatless rfl kM306 kL_82 e1 hMF (Nat.le_of_ble_eq_true rfl) hc rfl (by decide +kernel) (fun z I2 R2 hq => ?_)
  exact (h z I2 R2 hq)
theorem S_L_law_671 {X : CX} {d : Nat} {x3 o0 o1 : Int} {I R : PF} {Q : PV → PF → PF → Prop} (e9 : o0 = o1) (h1 : PL X d mL_law 989 [(2, 42), (2, 64), (2, 306), (0, x3)] [] I R Q) : PL X d mL_law 671 [(2, 42), (2, 64), (2, 306), (0, x3)] [(0, o1), (0, o0)] I R Q := by
  exact P_icmp_eq (off := 318) (t := 989) (q := 674) (by decide) rfl (by decide +kernel) (fun _ => h1) (fun g9 => absurd (congrArg w32 e9) g9)
theorem S_L_law_674 {X : CX} {d : Nat} {I R : PF} {Q : PV → PF → PF → Prop} (h : Q (0, 0) I R) : PL X d mL_law 674 [] [] I R Q := by
  refine P_iconst (n := 0) (q := 675) rfl (by decide +kernel) ?_
  refine P_zret rfl (Or.inl rfl) (by decide +kernel) h
theorem S_L_law_676 {X : CX} {d d1 : Nat} {x3 : Int} {I R : PF} {Q Q1 : PV → PF → PF → Prop} (e1 : d1 + 1 ≤ d) (hc : CN X d1 mX10_see [(2, 64)] I R Q1) (h : ∀ z I2 R2, Q1 (0, z) I2 R2 → PL X d mL_law 680 [(2, 42), (2, 64), (2, 306), (0, x3)] [(0, z)] I2 R2 Q) : PL X d mL_law 676 [(2, 42), (2, 64), (2, 306), (0, x3)] [] I R Q := by
  refine P_aload_n (n := 1) (q := 677) rfl rfl (by decide +kernel) ?_
  refine P_invV (As := []) (q := 680) oX10_see rfl kM64 kL_83 e1 hMF (Nat.le_of_ble_eq_true rfl) hc rfl (by decide +kernel) (fun z I2 R2 hq => ?_)
  exact (h z I2 R2 hq)
theorem S_L_law_680 {X : CX} {d d1 : Nat} {x3 o0 : Int} {I R : PF} {Q Q1 : PV → PF → PF → Prop} (e1 : d1 + 1 ≤ d) (hc : CN X d1 mX11_see [(2, 306)] I R Q1) (h : ∀ z I2 R2, Q1 (0, z) I2 R2 → PL X d mL_law 684 [(2, 42), (2, 64), (2, 306), (0, x3)] [(0, z), (0, o0)] I2 R2 Q) : PL X d mL_law 680 [(2, 42), (2, 64), (2, 306), (0, x3)] [(0, o0)] I R Q := by
  refine P_aload_n (n := 2) (q := 681) rfl rfl (by decide +kernel) ?_
  refine P_invV (As := []) (q := 684) oX11_see rfl kM306 kL_86 e1 hMF (Nat.le_of_ble_eq_true rfl) hc rfl (by decide +kernel) (fun z I2 R2 hq => ?_)
  exact (h z I2 R2 hq)
theorem S_L_law_684 {X : CX} {d : Nat} {x3 o0 o1 : Int} {I R : PF} {Q : PV → PF → PF → Prop} (e9 : o0 = o1) (h1 : PL X d mL_law 989 [(2, 42), (2, 64), (2, 306), (0, x3)] [] I R Q) : PL X d mL_law 684 [(2, 42), (2, 64), (2, 306), (0, x3)] [(0, o1), (0, o0)] I R Q := by
  exact P_icmp_eq (off := 305) (t := 989) (q := 687) (by decide) rfl (by decide +kernel) (fun _ => h1) (fun g9 => absurd (congrArg w32 e9) g9)
theorem S_L_law_687 {X : CX} {d : Nat} {I R : PF} {Q : PV → PF → PF → Prop} (h : Q (0, 0) I R) : PL X d mL_law 687 [] [] I R Q := by
  refine P_iconst (n := 0) (q := 688) rfl (by decide +kernel) ?_
  refine P_zret rfl (Or.inl rfl) (by decide +kernel) h
theorem S_L_law_689 {X : CX} {d d1 : Nat} {x3 : Int} {I R : PF} {Q Q1 : PV → PF → PF → Prop} (b1 : 0 ≤ (x3 + 1) ∧ (x3 + 1) < (xN X : Int)) (n1 : xN X < 2147483648) (e1 : d1 + 1 ≤ d) (hc : CN X d1 mX10_wears [(2, 64), (0, ((xV X ((x3 + 1)).toNat).toInt))] I R Q1) (h : ∀ z I2 R2, Q1 (0, z) I2 R2 → PL X d mL_law 698 [(2, 42), (2, 64), (2, 306), (0, x3)] [(0, z)] I2 R2 Q) : PL X d mL_law 689 [(2, 42), (2, 64), (2, 306), (0, x3)] [] I R Q := by
  refine P_aload_n (n := 1) (q := 690) rfl rfl (by decide +kernel) ?_
  refine P_aload_n (n := 0) (q := 691) rfl rfl (by decide +kernel) ?_
  refine P_iload_n (n := 3) (q := 692) rfl rfl (by decide +kernel) ?_
  refine P_iconst (n := 1) (q := 693) rfl (by decide +kernel) ?_
  refine P_iadd (q := 694) rfl (by decide +kernel) ?_
  refine B_ialoadX (q := 695) b1 n1 rfl (by decide +kernel) ?_
  refine P_invV (As := [(0, ((xV X ((x3 + 1)).toNat).toInt))]) (q := 698) oX10_wears rfl kM64 kL_87 e1 hMF (Nat.le_of_ble_eq_true rfl) hc rfl (by decide +kernel) (fun z I2 R2 hq => ?_)
  exact (h z I2 R2 hq)
theorem S_L_law_698 {X : CX} {d d1 : Nat} {x3 o0 : Int} {I R : PF} {Q Q1 : PV → PF → PF → Prop} (b1 : 0 ≤ (x3 + 1) ∧ (x3 + 1) < (xN X : Int)) (n1 : xN X < 2147483648) (e1 : d1 + 1 ≤ d) (hc : CN X d1 mX11_wears [(2, 306), (0, ((xV X ((x3 + 1)).toNat).toInt))] I R Q1) (h : ∀ z I2 R2, Q1 (0, z) I2 R2 → PL X d mL_law 707 [(2, 42), (2, 64), (2, 306), (0, x3)] [(0, z), (0, o0)] I2 R2 Q) : PL X d mL_law 698 [(2, 42), (2, 64), (2, 306), (0, x3)] [(0, o0)] I R Q := by
  refine P_aload_n (n := 2) (q := 699) rfl rfl (by decide +kernel) ?_
  refine P_aload_n (n := 0) (q := 700) rfl rfl (by decide +kernel) ?_
  refine P_iload_n (n := 3) (q := 701) rfl rfl (by decide +kernel) ?_
  refine P_iconst (n := 1) (q := 702) rfl (by decide +kernel) ?_
  refine P_iadd (q := 703) rfl (by decide +kernel) ?_
  refine B_ialoadX (q := 704) b1 n1 rfl (by decide +kernel) ?_
  refine P_invV (As := [(0, ((xV X ((x3 + 1)).toNat).toInt))]) (q := 707) oX11_wears rfl kM306 kL_90 e1 hMF (Nat.le_of_ble_eq_true rfl) hc rfl (by decide +kernel) (fun z I2 R2 hq => ?_)
  exact (h z I2 R2 hq)
theorem S_L_law_707 {X : CX} {d : Nat} {x3 o0 o1 : Int} {I R : PF} {Q : PV → PF → PF → Prop} (e9 : o0 = o1) (h1 : PL X d mL_law 989 [(2, 42), (2, 64), (2, 306), (0, x3)] [] I R Q) : PL X d mL_law 707 [(2, 42), (2, 64), (2, 306), (0, x3)] [(0, o1), (0, o0)] I R Q := by
  exact P_icmp_eq (off := 282) (t := 989) (q := 710) (by decide) rfl (by decide +kernel) (fun _ => h1) (fun g9 => absurd (congrArg w32 e9) g9)
theorem S_L_law_710 {X : CX} {d : Nat} {I R : PF} {Q : PV → PF → PF → Prop} (h : Q (0, 0) I R) : PL X d mL_law 710 [] [] I R Q := by
  refine P_iconst (n := 0) (q := 711) rfl (by decide +kernel) ?_
  refine P_zret rfl (Or.inl rfl) (by decide +kernel) h
theorem S_L_law_712 {X : CX} {d d1 : Nat} {x3 : Int} {I R : PF} {Q Q1 : PV → PF → PF → Prop} (b1 : 0 ≤ (x3 + 1) ∧ (x3 + 1) < (xN X : Int)) (n1 : xN X < 2147483648) (e1 : d1 + 1 ≤ d) (hc : CN X d1 mX10_asked [(2, 64), (0, ((xV X ((x3 + 1)).toNat).toInt))] I R Q1) (h : ∀ z I2 R2, Q1 (0, z) I2 R2 → PL X d mL_law 721 [(2, 42), (2, 64), (2, 306), (0, x3)] [(0, z)] I2 R2 Q) : PL X d mL_law 712 [(2, 42), (2, 64), (2, 306), (0, x3)] [] I R Q := by
  refine P_aload_n (n := 1) (q := 713) rfl rfl (by decide +kernel) ?_
  refine P_aload_n (n := 0) (q := 714) rfl rfl (by decide +kernel) ?_
  refine P_iload_n (n := 3) (q := 715) rfl rfl (by decide +kernel) ?_
  refine P_iconst (n := 1) (q := 716) rfl (by decide +kernel) ?_
  refine P_iadd (q := 717) rfl (by decide +kernel) ?_
  refine B_ialoadX (q := 718) b1 n1 rfl (by decide +kernel) ?_
  refine P_invV (As := [(0, ((xV X ((x3 + 1)).toNat).toInt))]) (q := 721) oX10_asked rfl kM64 kL_91 e1 hMF (Nat.le_of_ble_eq_true rfl) hc rfl (by decide +kernel) (fun z I2 R2 hq => ?_)
  exact (h z I2 R2 hq)
theorem S_L_law_721 {X : CX} {d d1 : Nat} {x3 o0 : Int} {I R : PF} {Q Q1 : PV → PF → PF → Prop} (b1 : 0 ≤ (x3 + 1) ∧ (x3 + 1) < (xN X : Int)) (n1 : xN X < 2147483648) (e1 : d1 + 1 ≤ d) (hc : CN X d1 mX11_asked [(2, 306), (0, ((xV X ((x3 + 1)).toNat).toInt))] I R Q1) (h : ∀ z I2 R2, Q1 (0, z) I2 R2 → PL X d mL_law 730 [(2, 42), (2, 64), (2, 306), (0, x3)] [(0, z), (0, o0)] I2 R2 Q) : PL X d mL_law 721 [(2, 42), (2, 64), (2, 306), (0, x3)] [(0, o0)] I R Q := by
  refine P_aload_n (n := 2) (q := 722) rfl rfl (by decide +kernel) ?_
  refine P_aload_n (n := 0) (q := 723) rfl rfl (by decide +kernel) ?_
  refine P_iload_n (n := 3) (q := 724) rfl rfl (by decide +kernel) ?_
  refine P_iconst (n := 1) (q := 725) rfl (by decide +kernel) ?_
  refine P_iadd (q := 726) rfl (by decide +kernel) ?_
  refine B_ialoadX (q := 727) b1 n1 rfl (by decide +kernel) ?_
  refine P_invV (As := [(0, ((xV X ((x3 + 1)).toNat).toInt))]) (q := 730) oX11_asked rfl kM306 kL_94 e1 hMF (Nat.le_of_ble_eq_true rfl) hc rfl (by decide +kernel) (fun z I2 R2 hq => ?_)
  exact (h z I2 R2 hq)
theorem S_L_law_730 {X : CX} {d : Nat} {x3 o0 o1 : Int} {I R : PF} {Q : PV → PF → PF → Prop} (e9 : o0 = o1) (h1 : PL X d mL_law 989 [(2, 42), (2, 64), (2, 306), (0, x3)] [] I R Q) : PL X d mL_law 730 [(2, 42), (2, 64), (2, 306), (0, x3)] [(0, o1), (0, o0)] I R Q := by
  exact P_icmp_eq (off := 259) (t := 989) (q := 733) (by decide) rfl (by decide +kernel) (fun _ => h1) (fun g9 => absurd (congrArg w32 e9) g9)
theorem S_L_law_733 {X : CX} {d : Nat} {I R : PF} {Q : PV → PF → PF → Prop} (h : Q (0, 0) I R) : PL X d mL_law 733 [] [] I R Q := by
  refine P_iconst (n := 0) (q := 734) rfl (by decide +kernel) ?_
  refine P_zret rfl (Or.inl rfl) (by decide +kernel) h
theorem S_L_law_735 {X : CX} {d d1 : Nat} {x3 : Int} {I R : PF} {Q Q1 : PV → PF → PF → Prop} (b1 : 0 ≤ (x3 + 1) ∧ (x3 + 1) < (xN X : Int)) (n1 : xN X < 2147483648) (b2 : 0 ≤ (x3 + 2) ∧ (x3 + 2) < (xN X : Int)) (b3 : 0 ≤ (x3 + 3) ∧ (x3 + 3) < (xN X : Int)) (e1 : d1 + 1 ≤ d) (hc : CN X d1 mX10_move [(2, 64), (0, ((xV X ((x3 + 1)).toNat).toInt)), (0, ((xV X ((x3 + 2)).toNat).toInt)), (0, ((xV X ((x3 + 3)).toNat).toInt))] I R Q1) (h : ∀ z I2 R2, Q1 (0, z) I2 R2 → PL X d mL_law 754 [(2, 42), (2, 64), (2, 306), (0, x3)] [(0, z)] I2 R2 Q) : PL X d mL_law 735 [(2, 42), (2, 64), (2, 306), (0, x3)] [] I R Q := by
  refine P_aload_n (n := 1) (q := 736) rfl rfl (by decide +kernel) ?_
  refine P_aload_n (n := 0) (q := 737) rfl rfl (by decide +kernel) ?_
  refine P_iload_n (n := 3) (q := 738) rfl rfl (by decide +kernel) ?_
  refine P_iconst (n := 1) (q := 739) rfl (by decide +kernel) ?_
  refine P_iadd (q := 740) rfl (by decide +kernel) ?_
  refine B_ialoadX (q := 741) b1 n1 rfl (by decide +kernel) ?_
  refine P_aload_n (n := 0) (q := 742) rfl rfl (by decide +kernel) ?_
  refine P_iload_n (n := 3) (q := 743) rfl rfl (by decide +kernel) ?_
  refine P_iconst (n := 2) (q := 744) rfl (by decide +kernel) ?_
  refine P_iadd (q := 745) rfl (by decide +kernel) ?_
  refine B_ialoadX (q := 746) b2 n1 rfl (by decide +kernel) ?_
  refine P_aload_n (n := 0) (q := 747) rfl rfl (by decide +kernel) ?_
  refine P_iload_n (n := 3) (q := 748) rfl rfl (by decide +kernel) ?_
  refine P_iconst (n := 3) (q := 749) rfl (by decide +kernel) ?_
  refine P_iadd (q := 750) rfl (by decide +kernel) ?_
  refine B_ialoadX (q := 751) b3 n1 rfl (by decide +kernel) ?_
  refine P_invV (As := [(0, ((xV X ((x3 + 1)).toNat).toInt)), (0, ((xV X ((x3 + 2)).toNat).toInt)), (0, ((xV X ((x3 + 3)).toNat).toInt))]) (q := 754) oX10_move rfl kM64 kL_95 e1 hMF (Nat.le_of_ble_eq_true rfl) hc rfl (by decide +kernel) (fun z I2 R2 hq => ?_)
  exact (h z I2 R2 hq)
theorem S_L_law_754 {X : CX} {d d1 : Nat} {x3 o0 : Int} {I R : PF} {Q Q1 : PV → PF → PF → Prop} (b1 : 0 ≤ (x3 + 1) ∧ (x3 + 1) < (xN X : Int)) (n1 : xN X < 2147483648) (b2 : 0 ≤ (x3 + 2) ∧ (x3 + 2) < (xN X : Int)) (b3 : 0 ≤ (x3 + 3) ∧ (x3 + 3) < (xN X : Int)) (e1 : d1 + 1 ≤ d) (hc : CN X d1 mX11_move [(2, 306), (0, ((xV X ((x3 + 1)).toNat).toInt)), (0, ((xV X ((x3 + 2)).toNat).toInt)), (0, ((xV X ((x3 + 3)).toNat).toInt))] I R Q1) (h : ∀ z I2 R2, Q1 (0, z) I2 R2 → PL X d mL_law 773 [(2, 42), (2, 64), (2, 306), (0, x3)] [(0, z), (0, o0)] I2 R2 Q) : PL X d mL_law 754 [(2, 42), (2, 64), (2, 306), (0, x3)] [(0, o0)] I R Q := by
  refine P_aload_n (n := 2) (q := 755) rfl rfl (by decide +kernel) ?_
  refine P_aload_n (n := 0) (q := 756) rfl rfl (by decide +kernel) ?_
  refine P_iload_n (n := 3) (q := 757) rfl rfl (by decide +kernel) ?_
  refine P_iconst (n := 1) (q := 758) rfl (by decide +kernel) ?_
  refine P_iadd (q := 759) rfl (by decide +kernel) ?_
  refine B_ialoadX (q := 760) b1 n1 rfl (by decide +kernel) ?_
  refine P_aload_n (n := 0) (q := 761) rfl rfl (by decide +kernel) ?_
  refine P_iload_n (n := 3) (q := 762) rfl rfl (by decide +kernel) ?_
  refine P_iconst (n := 2) (q := 763) rfl (by decide +kernel) ?_
  refine P_iadd (q := 764) rfl (by decide +kernel) ?_
  refine B_ialoadX (q := 765) b2 n1 rfl (by decide +kernel) ?_
  refine P_aload_n (n := 0) (q := 766) rfl rfl (by decide +kernel) ?_
  refine P_iload_n (n := 3) (q := 767) rfl rfl (by decide +kernel) ?_
  refine P_iconst (n := 3) (q := 768) rfl (by decide +kernel) ?_
  refine P_iadd (q := 769) rfl (by decide +kernel) ?_
  refine B_ialoadX (q := 770) b3 n1 rfl (by decide +kernel) ?_
  refine P_invV (As := [(0, ((xV X ((x3 + 1)).toNat).toInt)), (0, ((xV X ((x3 + 2)).toNat).toInt)), (0, ((xV X ((x3 + 3)).toNat).toInt))]) (q := 773) oX11_move rfl kM306 kL_99 e1 hMF (Nat.le_of_ble_eq_true rfl) hc rfl (by decide +kernel) (fun z I2 R2 hq => ?_)
  exact (h z I2 R2 hq)
theorem S_L_law_773 {X : CX} {d : Nat} {x3 o0 o1 : Int} {I R : PF} {Q : PV → PF → PF → Prop} (e9 : o0 = o1) (h1 : PL X d mL_law 989 [(2, 42), (2, 64), (2, 306), (0, x3)] [] I R Q) : PL X d mL_law 773 [(2, 42), (2, 64), (2, 306), (0, x3)] [(0, o1), (0, o0)] I R Q := by
  exact P_icmp_eq (off := 216) (t := 989) (q := 776) (by decide) rfl (by decide +kernel) (fun _ => h1) (fun g9 => absurd (congrArg w32 e9) g9)
theorem S_L_law_776 {X : CX} {d : Nat} {I R : PF} {Q : PV → PF → PF → Prop} (h : Q (0, 0) I R) : PL X d mL_law 776 [] [] I R Q := by
  refine P_iconst (n := 0) (q := 777) rfl (by decide +kernel) ?_
  refine P_zret rfl (Or.inl rfl) (by decide +kernel) h
theorem S_L_law_778 {X : CX} {d d1 : Nat} {x3 : Int} {I R : PF} {Q Q1 : PV → PF → PF → Prop} (b1 : 0 ≤ (x3 + 1) ∧ (x3 + 1) < (xN X : Int)) (n1 : xN X < 2147483648) (b2 : 0 ≤ (x3 + 2) ∧ (x3 + 2) < (xN X : Int)) (b3 : 0 ≤ (x3 + 3) ∧ (x3 + 3) < (xN X : Int)) (e1 : d1 + 1 ≤ d) (hc : CN X d1 mX10_train [(2, 64), (0, ((xV X ((x3 + 1)).toNat).toInt)), (0, ((xV X ((x3 + 2)).toNat).toInt)), (0, ((xV X ((x3 + 3)).toNat).toInt))] I R Q1) (h : ∀ z I2 R2, Q1 (0, z) I2 R2 → PL X d mL_law 797 [(2, 42), (2, 64), (2, 306), (0, x3)] [(0, z)] I2 R2 Q) : PL X d mL_law 778 [(2, 42), (2, 64), (2, 306), (0, x3)] [] I R Q := by
  refine P_aload_n (n := 1) (q := 779) rfl rfl (by decide +kernel) ?_
  refine P_aload_n (n := 0) (q := 780) rfl rfl (by decide +kernel) ?_
  refine P_iload_n (n := 3) (q := 781) rfl rfl (by decide +kernel) ?_
  refine P_iconst (n := 1) (q := 782) rfl (by decide +kernel) ?_
  refine P_iadd (q := 783) rfl (by decide +kernel) ?_
  refine B_ialoadX (q := 784) b1 n1 rfl (by decide +kernel) ?_
  refine P_aload_n (n := 0) (q := 785) rfl rfl (by decide +kernel) ?_
  refine P_iload_n (n := 3) (q := 786) rfl rfl (by decide +kernel) ?_
  refine P_iconst (n := 2) (q := 787) rfl (by decide +kernel) ?_
  refine P_iadd (q := 788) rfl (by decide +kernel) ?_
  refine B_ialoadX (q := 789) b2 n1 rfl (by decide +kernel) ?_
  refine P_aload_n (n := 0) (q := 790) rfl rfl (by decide +kernel) ?_
  refine P_iload_n (n := 3) (q := 791) rfl rfl (by decide +kernel) ?_
  refine P_iconst (n := 3) (q := 792) rfl (by decide +kernel) ?_
  refine P_iadd (q := 793) rfl (by decide +kernel) ?_
  refine B_ialoadX (q := 794) b3 n1 rfl (by decide +kernel) ?_
  refine P_invV (As := [(0, ((xV X ((x3 + 1)).toNat).toInt)), (0, ((xV X ((x3 + 2)).toNat).toInt)), (0, ((xV X ((x3 + 3)).toNat).toInt))]) (q := 797) oX10_train rfl kM64 kL_100 e1 hMF (Nat.le_of_ble_eq_true rfl) hc rfl (by decide +kernel) (fun z I2 R2 hq => ?_)
  exact (h z I2 R2 hq)
theorem S_L_law_797 {X : CX} {d d1 : Nat} {x3 o0 : Int} {I R : PF} {Q Q1 : PV → PF → PF → Prop} (b1 : 0 ≤ (x3 + 1) ∧ (x3 + 1) < (xN X : Int)) (n1 : xN X < 2147483648) (b2 : 0 ≤ (x3 + 2) ∧ (x3 + 2) < (xN X : Int)) (b3 : 0 ≤ (x3 + 3) ∧ (x3 + 3) < (xN X : Int)) (e1 : d1 + 1 ≤ d) (hc : CN X d1 mX11_train [(2, 306), (0, ((xV X ((x3 + 1)).toNat).toInt)), (0, ((xV X ((x3 + 2)).toNat).toInt)), (0, ((xV X ((x3 + 3)).toNat).toInt))] I R Q1) (h : ∀ z I2 R2, Q1 (0, z) I2 R2 → PL X d mL_law 816 [(2, 42), (2, 64), (2, 306), (0, x3)] [(0, z), (0, o0)] I2 R2 Q) : PL X d mL_law 797 [(2, 42), (2, 64), (2, 306), (0, x3)] [(0, o0)] I R Q := by
  refine P_aload_n (n := 2) (q := 798) rfl rfl (by decide +kernel) ?_
  refine P_aload_n (n := 0) (q := 799) rfl rfl (by decide +kernel) ?_
  refine P_iload_n (n := 3) (q := 800) rfl rfl (by decide +kernel) ?_
  refine P_iconst (n := 1) (q := 801) rfl (by decide +kernel) ?_
  refine P_iadd (q := 802) rfl (by decide +kernel) ?_
  refine B_ialoadX (q := 803) b1 n1 rfl (by decide +kernel) ?_
  refine P_aload_n (n := 0) (q := 804) rfl rfl (by decide +kernel) ?_
  refine P_iload_n (n := 3) (q := 805) rfl rfl (by decide +kernel) ?_
  refine P_iconst (n := 2) (q := 806) rfl (by decide +kernel) ?_
  refine P_iadd (q := 807) rfl (by decide +kernel) ?_
  refine B_ialoadX (q := 808) b2 n1 rfl (by decide +kernel) ?_
  refine P_aload_n (n := 0) (q := 809) rfl rfl (by decide +kernel) ?_
  refine P_iload_n (n := 3) (q := 810) rfl rfl (by decide +kernel) ?_
  refine P_iconst (n := 3) (q := 811) rfl (by decide +kernel) ?_
  refine P_iadd (q := 812) rfl (by decide +kernel) ?_
  refine B_ialoadX (q := 813) b3 n1 rfl (by decide +kernel) ?_
  refine P_invV (As := [(0, ((xV X ((x3 + 1)).toNat).toInt)), (0, ((xV X ((x3 + 2)).toNat).toInt)), (0, ((xV X ((x3 + 3)).toNat).toInt))]) (q := 816) oX11_train rfl kM306 kL_103 e1 hMF (Nat.le_of_ble_eq_true rfl) hc rfl (by decide +kernel) (fun z I2 R2 hq => ?_)
  exact (h z I2 R2 hq)
theorem S_L_law_816 {X : CX} {d : Nat} {x3 o0 o1 : Int} {I R : PF} {Q : PV → PF → PF → Prop} (e9 : o0 = o1) (h1 : PL X d mL_law 989 [(2, 42), (2, 64), (2, 306), (0, x3)] [] I R Q) : PL X d mL_law 816 [(2, 42), (2, 64), (2, 306), (0, x3)] [(0, o1), (0, o0)] I R Q := by
  exact P_icmp_eq (off := 173) (t := 989) (q := 819) (by decide) rfl (by decide +kernel) (fun _ => h1) (fun g9 => absurd (congrArg w32 e9) g9)
theorem S_L_law_819 {X : CX} {d : Nat} {I R : PF} {Q : PV → PF → PF → Prop} (h : Q (0, 0) I R) : PL X d mL_law 819 [] [] I R Q := by
  refine P_iconst (n := 0) (q := 820) rfl (by decide +kernel) ?_
  refine P_zret rfl (Or.inl rfl) (by decide +kernel) h
theorem S_L_law_821 {X : CX} {d d1 : Nat} {x3 : Int} {I R : PF} {Q Q1 : PV → PF → PF → Prop} (b1 : 0 ≤ (x3 + 1) ∧ (x3 + 1) < (xN X : Int)) (n1 : xN X < 2147483648) (e1 : d1 + 1 ≤ d) (hc : CN X d1 mX10_noons [(2, 64), (0, ((xV X ((x3 + 1)).toNat).toInt))] I R Q1) (h : ∀ z I2 R2, Q1 (0, z) I2 R2 → PL X d mL_law 830 [(2, 42), (2, 64), (2, 306), (0, x3)] [(0, z)] I2 R2 Q) : PL X d mL_law 821 [(2, 42), (2, 64), (2, 306), (0, x3)] [] I R Q := by
  refine P_aload_n (n := 1) (q := 822) rfl rfl (by decide +kernel) ?_
  refine P_aload_n (n := 0) (q := 823) rfl rfl (by decide +kernel) ?_
  refine P_iload_n (n := 3) (q := 824) rfl rfl (by decide +kernel) ?_
  refine P_iconst (n := 1) (q := 825) rfl (by decide +kernel) ?_
  refine P_iadd (q := 826) rfl (by decide +kernel) ?_
  refine B_ialoadX (q := 827) b1 n1 rfl (by decide +kernel) ?_
  refine P_invV (As := [(0, ((xV X ((x3 + 1)).toNat).toInt))]) (q := 830) oX10_noons rfl kM64 kL_104 e1 hMF (Nat.le_of_ble_eq_true rfl) hc rfl (by decide +kernel) (fun z I2 R2 hq => ?_)
  exact (h z I2 R2 hq)
theorem S_L_law_830 {X : CX} {d d1 : Nat} {x3 o0 : Int} {I R : PF} {Q Q1 : PV → PF → PF → Prop} (b1 : 0 ≤ (x3 + 1) ∧ (x3 + 1) < (xN X : Int)) (n1 : xN X < 2147483648) (e1 : d1 + 1 ≤ d) (hc : CN X d1 mX11_noons [(2, 306), (0, ((xV X ((x3 + 1)).toNat).toInt))] I R Q1) (h : ∀ z I2 R2, Q1 (0, z) I2 R2 → PL X d mL_law 839 [(2, 42), (2, 64), (2, 306), (0, x3)] [(0, z), (0, o0)] I2 R2 Q) : PL X d mL_law 830 [(2, 42), (2, 64), (2, 306), (0, x3)] [(0, o0)] I R Q := by
  refine P_aload_n (n := 2) (q := 831) rfl rfl (by decide +kernel) ?_
  refine P_aload_n (n := 0) (q := 832) rfl rfl (by decide +kernel) ?_
  refine P_iload_n (n := 3) (q := 833) rfl rfl (by decide +kernel) ?_
  refine P_iconst (n := 1) (q := 834) rfl (by decide +kernel) ?_
  refine P_iadd (q := 835) rfl (by decide +kernel) ?_
  refine B_ialoadX (q := 836) b1 n1 rfl (by decide +kernel) ?_
  refine P_invV (As := [(0, ((xV X ((x3 + 1)).toNat).toInt))]) (q := 839) oX11_noons rfl kM306 kL_107 e1 hMF (Nat.le_of_ble_eq_true rfl) hc rfl (by decide +kernel) (fun z I2 R2 hq => ?_)
  exact (h z I2 R2 hq)
theorem S_L_law_839 {X : CX} {d : Nat} {x3 o0 o1 : Int} {I R : PF} {Q : PV → PF → PF → Prop} (e9 : o0 = o1) (h1 : PL X d mL_law 989 [(2, 42), (2, 64), (2, 306), (0, x3)] [] I R Q) : PL X d mL_law 839 [(2, 42), (2, 64), (2, 306), (0, x3)] [(0, o1), (0, o0)] I R Q := by
  exact P_icmp_eq (off := 150) (t := 989) (q := 842) (by decide) rfl (by decide +kernel) (fun _ => h1) (fun g9 => absurd (congrArg w32 e9) g9)
theorem S_L_law_842 {X : CX} {d : Nat} {I R : PF} {Q : PV → PF → PF → Prop} (h : Q (0, 0) I R) : PL X d mL_law 842 [] [] I R Q := by
  refine P_iconst (n := 0) (q := 843) rfl (by decide +kernel) ?_
  refine P_zret rfl (Or.inl rfl) (by decide +kernel) h
theorem S_L_law_844 {X : CX} {d d1 : Nat} {x3 : Int} {I R : PF} {Q Q1 : PV → PF → PF → Prop} (b1 : 0 ≤ (x3 + 1) ∧ (x3 + 1) < (xN X : Int)) (n1 : xN X < 2147483648) (e1 : d1 + 1 ≤ d) (hc : CN X d1 mX10_chance [(2, 64), (0, ((xV X ((x3 + 1)).toNat).toInt))] I R Q1) (h : ∀ z I2 R2, Q1 (0, z) I2 R2 → PL X d mL_law 853 [(2, 42), (2, 64), (2, 306), (0, x3)] [(0, z)] I2 R2 Q) : PL X d mL_law 844 [(2, 42), (2, 64), (2, 306), (0, x3)] [] I R Q := by
  refine P_aload_n (n := 1) (q := 845) rfl rfl (by decide +kernel) ?_
  refine P_aload_n (n := 0) (q := 846) rfl rfl (by decide +kernel) ?_
  refine P_iload_n (n := 3) (q := 847) rfl rfl (by decide +kernel) ?_
  refine P_iconst (n := 1) (q := 848) rfl (by decide +kernel) ?_
  refine P_iadd (q := 849) rfl (by decide +kernel) ?_
  refine B_ialoadX (q := 850) b1 n1 rfl (by decide +kernel) ?_
  refine P_invV (As := [(0, ((xV X ((x3 + 1)).toNat).toInt))]) (q := 853) oX10_chance rfl kM64 kL_108 e1 hMF (Nat.le_of_ble_eq_true rfl) hc rfl (by decide +kernel) (fun z I2 R2 hq => ?_)
  exact (h z I2 R2 hq)
theorem S_L_law_853 {X : CX} {d d1 : Nat} {x3 o0 : Int} {I R : PF} {Q Q1 : PV → PF → PF → Prop} (b1 : 0 ≤ (x3 + 1) ∧ (x3 + 1) < (xN X : Int)) (n1 : xN X < 2147483648) (e1 : d1 + 1 ≤ d) (hc : CN X d1 mX11_chance [(2, 306), (0, ((xV X ((x3 + 1)).toNat).toInt))] I R Q1) (h : ∀ z I2 R2, Q1 (0, z) I2 R2 → PL X d mL_law 862 [(2, 42), (2, 64), (2, 306), (0, x3)] [(0, z), (0, o0)] I2 R2 Q) : PL X d mL_law 853 [(2, 42), (2, 64), (2, 306), (0, x3)] [(0, o0)] I R Q := by
  refine P_aload_n (n := 2) (q := 854) rfl rfl (by decide +kernel) ?_
  refine P_aload_n (n := 0) (q := 855) rfl rfl (by decide +kernel) ?_
  refine P_iload_n (n := 3) (q := 856) rfl rfl (by decide +kernel) ?_
  refine P_iconst (n := 1) (q := 857) rfl (by decide +kernel) ?_
  refine P_iadd (q := 858) rfl (by decide +kernel) ?_
  refine B_ialoadX (q := 859) b1 n1 rfl (by decide +kernel) ?_
  refine P_invV (As := [(0, ((xV X ((x3 + 1)).toNat).toInt))]) (q := 862) oX11_chance rfl kM306 kL_111 e1 hMF (Nat.le_of_ble_eq_true rfl) hc rfl (by decide +kernel) (fun z I2 R2 hq => ?_)
  exact (h z I2 R2 hq)
theorem S_L_law_862 {X : CX} {d : Nat} {x3 o0 o1 : Int} {I R : PF} {Q : PV → PF → PF → Prop} (e9 : o0 = o1) (h1 : PL X d mL_law 989 [(2, 42), (2, 64), (2, 306), (0, x3)] [] I R Q) : PL X d mL_law 862 [(2, 42), (2, 64), (2, 306), (0, x3)] [(0, o1), (0, o0)] I R Q := by
  exact P_icmp_eq (off := 127) (t := 989) (q := 865) (by decide) rfl (by decide +kernel) (fun _ => h1) (fun g9 => absurd (congrArg w32 e9) g9)
theorem S_L_law_865 {X : CX} {d : Nat} {I R : PF} {Q : PV → PF → PF → Prop} (h : Q (0, 0) I R) : PL X d mL_law 865 [] [] I R Q := by
  refine P_iconst (n := 0) (q := 866) rfl (by decide +kernel) ?_
  refine P_zret rfl (Or.inl rfl) (by decide +kernel) h
theorem S_L_law_867 {X : CX} {d d1 : Nat} {x3 : Int} {I R : PF} {Q Q1 : PV → PF → PF → Prop} (e1 : d1 + 1 ≤ d) (hc : CN X d1 mX10_undo [(2, 64)] I R Q1) (h : ∀ z I2 R2, Q1 (0, z) I2 R2 → PL X d mL_law 871 [(2, 42), (2, 64), (2, 306), (0, x3)] [(0, z)] I2 R2 Q) : PL X d mL_law 867 [(2, 42), (2, 64), (2, 306), (0, x3)] [] I R Q := by
  refine P_aload_n (n := 1) (q := 868) rfl rfl (by decide +kernel) ?_
  refine P_invV (As := []) (q := 871) oX10_undo rfl kM64 kL_112 e1 hMF (Nat.le_of_ble_eq_true rfl) hc rfl (by decide +kernel) (fun z I2 R2 hq => ?_)
  exact (h z I2 R2 hq)
theorem S_L_law_871 {X : CX} {d d1 : Nat} {x3 o0 : Int} {I R : PF} {Q Q1 : PV → PF → PF → Prop} (e1 : d1 + 1 ≤ d) (hc : CN X d1 mX11_undo [(2, 306)] I R Q1) (h : ∀ z I2 R2, Q1 (0, z) I2 R2 → PL X d mL_law 875 [(2, 42), (2, 64), (2, 306), (0, x3)] [(0, z), (0, o0)] I2 R2 Q) : PL X d mL_law 871 [(2, 42), (2, 64), (2, 306), (0, x3)] [(0, o0)] I R Q := by
  refine P_aload_n (n := 2) (q := 872) rfl rfl (by decide +kernel) ?_
  refine P_invV (As := []) (q := 875) oX11_undo rfl kM306 kL_116 e1 hMF (Nat.le_of_ble_eq_true rfl) hc rfl (by decide +kernel) (fun z I2 R2 hq => ?_)
  exact (h z I2 R2 hq)
theorem S_L_law_875 {X : CX} {d : Nat} {x3 o0 o1 : Int} {I R : PF} {Q : PV → PF → PF → Prop} (e9 : o0 = o1) (h1 : PL X d mL_law 989 [(2, 42), (2, 64), (2, 306), (0, x3)] [] I R Q) : PL X d mL_law 875 [(2, 42), (2, 64), (2, 306), (0, x3)] [(0, o1), (0, o0)] I R Q := by
  exact P_icmp_eq (off := 114) (t := 989) (q := 878) (by decide) rfl (by decide +kernel) (fun _ => h1) (fun g9 => absurd (congrArg w32 e9) g9)
theorem S_L_law_878 {X : CX} {d : Nat} {I R : PF} {Q : PV → PF → PF → Prop} (h : Q (0, 0) I R) : PL X d mL_law 878 [] [] I R Q := by
  refine P_iconst (n := 0) (q := 879) rfl (by decide +kernel) ?_
  refine P_zret rfl (Or.inl rfl) (by decide +kernel) h
theorem S_L_law_880 {X : CX} {d d1 : Nat} {x3 : Int} {I R : PF} {Q Q1 : PV → PF → PF → Prop} (b1 : 0 ≤ (x3 + 1) ∧ (x3 + 1) < (xN X : Int)) (n1 : xN X < 2147483648) (e1 : d1 + 1 ≤ d) (hc : CN X d1 mX10_seed [(2, 64), (0, ((xV X ((x3 + 1)).toNat).toInt))] I R Q1) (h : ∀ z I2 R2, Q1 (0, z) I2 R2 → PL X d mL_law 889 [(2, 42), (2, 64), (2, 306), (0, x3)] [(0, z)] I2 R2 Q) : PL X d mL_law 880 [(2, 42), (2, 64), (2, 306), (0, x3)] [] I R Q := by
  refine P_aload_n (n := 1) (q := 881) rfl rfl (by decide +kernel) ?_
  refine P_aload_n (n := 0) (q := 882) rfl rfl (by decide +kernel) ?_
  refine P_iload_n (n := 3) (q := 883) rfl rfl (by decide +kernel) ?_
  refine P_iconst (n := 1) (q := 884) rfl (by decide +kernel) ?_
  refine P_iadd (q := 885) rfl (by decide +kernel) ?_
  refine B_ialoadX (q := 886) b1 n1 rfl (by decide +kernel) ?_
  refine P_invV (As := [(0, ((xV X ((x3 + 1)).toNat).toInt))]) (q := 889) oX10_seed rfl kM64 kL_117 e1 hMF (Nat.le_of_ble_eq_true rfl) hc rfl (by decide +kernel) (fun z I2 R2 hq => ?_)
  exact (h z I2 R2 hq)
theorem S_L_law_889 {X : CX} {d d1 : Nat} {x3 o0 : Int} {I R : PF} {Q Q1 : PV → PF → PF → Prop} (b1 : 0 ≤ (x3 + 1) ∧ (x3 + 1) < (xN X : Int)) (n1 : xN X < 2147483648) (e1 : d1 + 1 ≤ d) (hc : CN X d1 mX11_seed [(2, 306), (0, ((xV X ((x3 + 1)).toNat).toInt))] I R Q1) (h : ∀ z I2 R2, Q1 (0, z) I2 R2 → PL X d mL_law 898 [(2, 42), (2, 64), (2, 306), (0, x3)] [(0, z), (0, o0)] I2 R2 Q) : PL X d mL_law 889 [(2, 42), (2, 64), (2, 306), (0, x3)] [(0, o0)] I R Q := by
  refine P_aload_n (n := 2) (q := 890) rfl rfl (by decide +kernel) ?_
  refine P_aload_n (n := 0) (q := 891) rfl rfl (by decide +kernel) ?_
  refine P_iload_n (n := 3) (q := 892) rfl rfl (by decide +kernel) ?_
  refine P_iconst (n := 1) (q := 893) rfl (by decide +kernel) ?_
  refine P_iadd (q := 894) rfl (by decide +kernel) ?_
  refine B_ialoadX (q := 895) b1 n1 rfl (by decide +kernel) ?_
  refine P_invV (As := [(0, ((xV X ((x3 + 1)).toNat).toInt))]) (q := 898) oX11_seed rfl kM306 kL_120 e1 hMF (Nat.le_of_ble_eq_true rfl) hc rfl (by decide +kernel) (fun z I2 R2 hq => ?_)
  exact (h z I2 R2 hq)
theorem S_L_law_898 {X : CX} {d : Nat} {x3 o0 o1 : Int} {I R : PF} {Q : PV → PF → PF → Prop} (e9 : o0 = o1) (h1 : PL X d mL_law 989 [(2, 42), (2, 64), (2, 306), (0, x3)] [] I R Q) : PL X d mL_law 898 [(2, 42), (2, 64), (2, 306), (0, x3)] [(0, o1), (0, o0)] I R Q := by
  exact P_icmp_eq (off := 91) (t := 989) (q := 901) (by decide) rfl (by decide +kernel) (fun _ => h1) (fun g9 => absurd (congrArg w32 e9) g9)
theorem S_L_law_901 {X : CX} {d : Nat} {I R : PF} {Q : PV → PF → PF → Prop} (h : Q (0, 0) I R) : PL X d mL_law 901 [] [] I R Q := by
  refine P_iconst (n := 0) (q := 902) rfl (by decide +kernel) ?_
  refine P_zret rfl (Or.inl rfl) (by decide +kernel) h
theorem S_L_law_903 {X : CX} {d d1 : Nat} {x3 : Int} {I R : PF} {Q Q1 : PV → PF → PF → Prop} (e1 : d1 + 1 ≤ d) (hc : CN X d1 mX10_ask [(2, 64)] I R Q1) (h : ∀ z I2 R2, Q1 (1, z) I2 R2 → PL X d mL_law 907 [(2, 42), (2, 64), (2, 306), (0, x3)] [(1, z)] I2 R2 Q) : PL X d mL_law 903 [(2, 42), (2, 64), (2, 306), (0, x3)] [] I R Q := by
  refine P_aload_n (n := 1) (q := 904) rfl rfl (by decide +kernel) ?_
  refine P_invV (As := []) (q := 907) oX10_ask rfl kM64 kL_121 e1 hMF (Nat.le_of_ble_eq_true rfl) hc rfl (by decide +kernel) (fun z I2 R2 hq => ?_)
  exact (h z I2 R2 hq)
theorem S_L_law_907 {X : CX} {d d1 : Nat} {x3 v0 : Int} {I R : PF} {Q Q1 : PV → PF → PF → Prop} (e1 : d1 + 1 ≤ d) (hc : CN X d1 mX11_ask [(2, 306)] I R Q1) (h : ∀ z I2 R2, Q1 (1, z) I2 R2 → PL X d mL_law 911 [(2, 42), (2, 64), (2, 306), (0, x3)] [(1, z), (1, v0)] I2 R2 Q) : PL X d mL_law 907 [(2, 42), (2, 64), (2, 306), (0, x3)] [(1, v0)] I R Q := by
  refine P_aload_n (n := 2) (q := 908) rfl rfl (by decide +kernel) ?_
  refine P_invV (As := []) (q := 911) oX11_ask rfl kM306 kL_125 e1 hMF (Nat.le_of_ble_eq_true rfl) hc rfl (by decide +kernel) (fun z I2 R2 hq => ?_)
  exact (h z I2 R2 hq)
theorem S_L_law_911 {X : CX} {d : Nat} {x3 v0 v1 : Int} {I R : PF} {Q : PV → PF → PF → Prop} (e9 : v0 = v1) (h1 : PL X d mL_law 989 [(2, 42), (2, 64), (2, 306), (0, x3)] [] I R Q) : PL X d mL_law 911 [(2, 42), (2, 64), (2, 306), (0, x3)] [(1, v1), (1, v0)] I R Q := by
  exact P_lcmp (q := 912) rfl (by decide +kernel) (P_if_eq (off := 77) (t := 989) (q := 915) (by decide) rfl (by decide +kernel) (fun _ => h1) (fun g9 => absurd (show w32 (cmpL v0 v1) = 0 from by rw [e9]; unfold cmpL; rw [if_neg (by omega), if_pos rfl]; decide) g9))
theorem S_L_law_915 {X : CX} {d : Nat} {I R : PF} {Q : PV → PF → PF → Prop} (h : Q (0, 0) I R) : PL X d mL_law 915 [] [] I R Q := by
  refine P_iconst (n := 0) (q := 916) rfl (by decide +kernel) ?_
  refine P_zret rfl (Or.inl rfl) (by decide +kernel) h
theorem S_L_law_917 {X : CX} {d d1 : Nat} {x3 : Int} {I R : PF} {Q Q1 : PV → PF → PF → Prop} (e1 : d1 + 1 ≤ d) (hc : CN X d1 mX10_image [(2, 64)] I R Q1) (h : ∀ z I2 R2, Q1 (0, z) I2 R2 → PL X d mL_law 921 [(2, 42), (2, 64), (2, 306), (0, x3)] [(0, z)] I2 R2 Q) : PL X d mL_law 917 [(2, 42), (2, 64), (2, 306), (0, x3)] [] I R Q := by
  refine P_aload_n (n := 1) (q := 918) rfl rfl (by decide +kernel) ?_
  refine P_invV (As := []) (q := 921) oX10_image rfl kM64 kL_126 e1 hMF (Nat.le_of_ble_eq_true rfl) hc rfl (by decide +kernel) (fun z I2 R2 hq => ?_)
  exact (h z I2 R2 hq)
theorem S_L_law_921 {X : CX} {d d1 : Nat} {x3 o0 : Int} {I R : PF} {Q Q1 : PV → PF → PF → Prop} (e1 : d1 + 1 ≤ d) (hc : CN X d1 mX11_image [(2, 306)] I R Q1) (h : ∀ z I2 R2, Q1 (0, z) I2 R2 → PL X d mL_law 925 [(2, 42), (2, 64), (2, 306), (0, x3)] [(0, z), (0, o0)] I2 R2 Q) : PL X d mL_law 921 [(2, 42), (2, 64), (2, 306), (0, x3)] [(0, o0)] I R Q := by
  refine P_aload_n (n := 2) (q := 922) rfl rfl (by decide +kernel) ?_
  refine P_invV (As := []) (q := 925) oX11_image rfl kM306 kL_129 e1 hMF (Nat.le_of_ble_eq_true rfl) hc rfl (by decide +kernel) (fun z I2 R2 hq => ?_)
  exact (h z I2 R2 hq)
theorem S_L_law_925 {X : CX} {d : Nat} {x3 o0 o1 : Int} {I R : PF} {Q : PV → PF → PF → Prop} (e9 : o0 = o1) (h1 : PL X d mL_law 989 [(2, 42), (2, 64), (2, 306), (0, x3)] [] I R Q) : PL X d mL_law 925 [(2, 42), (2, 64), (2, 306), (0, x3)] [(0, o1), (0, o0)] I R Q := by
  exact P_icmp_eq (off := 64) (t := 989) (q := 928) (by decide) rfl (by decide +kernel) (fun _ => h1) (fun g9 => absurd (congrArg w32 e9) g9)
theorem S_L_law_928 {X : CX} {d : Nat} {I R : PF} {Q : PV → PF → PF → Prop} (h : Q (0, 0) I R) : PL X d mL_law 928 [] [] I R Q := by
  refine P_iconst (n := 0) (q := 929) rfl (by decide +kernel) ?_
  refine P_zret rfl (Or.inl rfl) (by decide +kernel) h
theorem S_L_law_930 {X : CX} {d d1 : Nat} {x3 : Int} {I R : PF} {Q Q1 : PV → PF → PF → Prop} (b1 : 0 ≤ (x3 + 1) ∧ (x3 + 1) < (xN X : Int)) (n1 : xN X < 2147483648) (e1 : d1 + 1 ≤ d) (hc : CN X d1 mX10_octet [(2, 64), (0, ((xV X ((x3 + 1)).toNat).toInt))] I R Q1) (h : ∀ z I2 R2, Q1 (0, z) I2 R2 → PL X d mL_law 939 [(2, 42), (2, 64), (2, 306), (0, x3)] [(0, z)] I2 R2 Q) : PL X d mL_law 930 [(2, 42), (2, 64), (2, 306), (0, x3)] [] I R Q := by
  refine P_aload_n (n := 1) (q := 931) rfl rfl (by decide +kernel) ?_
  refine P_aload_n (n := 0) (q := 932) rfl rfl (by decide +kernel) ?_
  refine P_iload_n (n := 3) (q := 933) rfl rfl (by decide +kernel) ?_
  refine P_iconst (n := 1) (q := 934) rfl (by decide +kernel) ?_
  refine P_iadd (q := 935) rfl (by decide +kernel) ?_
  refine B_ialoadX (q := 936) b1 n1 rfl (by decide +kernel) ?_
  refine P_invV (As := [(0, ((xV X ((x3 + 1)).toNat).toInt))]) (q := 939) oX10_octet rfl kM64 kL_130 e1 hMF (Nat.le_of_ble_eq_true rfl) hc rfl (by decide +kernel) (fun z I2 R2 hq => ?_)
  exact (h z I2 R2 hq)
theorem S_L_law_939 {X : CX} {d d1 : Nat} {x3 o0 : Int} {I R : PF} {Q Q1 : PV → PF → PF → Prop} (b1 : 0 ≤ (x3 + 1) ∧ (x3 + 1) < (xN X : Int)) (n1 : xN X < 2147483648) (e1 : d1 + 1 ≤ d) (hc : CN X d1 mX11_octet [(2, 306), (0, ((xV X ((x3 + 1)).toNat).toInt))] I R Q1) (h : ∀ z I2 R2, Q1 (0, z) I2 R2 → PL X d mL_law 948 [(2, 42), (2, 64), (2, 306), (0, x3)] [(0, z), (0, o0)] I2 R2 Q) : PL X d mL_law 939 [(2, 42), (2, 64), (2, 306), (0, x3)] [(0, o0)] I R Q := by
  refine P_aload_n (n := 2) (q := 940) rfl rfl (by decide +kernel) ?_
  refine P_aload_n (n := 0) (q := 941) rfl rfl (by decide +kernel) ?_
  refine P_iload_n (n := 3) (q := 942) rfl rfl (by decide +kernel) ?_
  refine P_iconst (n := 1) (q := 943) rfl (by decide +kernel) ?_
  refine P_iadd (q := 944) rfl (by decide +kernel) ?_
  refine B_ialoadX (q := 945) b1 n1 rfl (by decide +kernel) ?_
  refine P_invV (As := [(0, ((xV X ((x3 + 1)).toNat).toInt))]) (q := 948) oX11_octet rfl kM306 kL_133 e1 hMF (Nat.le_of_ble_eq_true rfl) hc rfl (by decide +kernel) (fun z I2 R2 hq => ?_)
  exact (h z I2 R2 hq)
theorem S_L_law_948 {X : CX} {d : Nat} {x3 o0 o1 : Int} {I R : PF} {Q : PV → PF → PF → Prop} (e9 : o0 = o1) (h1 : PL X d mL_law 989 [(2, 42), (2, 64), (2, 306), (0, x3)] [] I R Q) : PL X d mL_law 948 [(2, 42), (2, 64), (2, 306), (0, x3)] [(0, o1), (0, o0)] I R Q := by
  exact P_icmp_eq (off := 41) (t := 989) (q := 951) (by decide) rfl (by decide +kernel) (fun _ => h1) (fun g9 => absurd (congrArg w32 e9) g9)
theorem S_L_law_951 {X : CX} {d : Nat} {I R : PF} {Q : PV → PF → PF → Prop} (h : Q (0, 0) I R) : PL X d mL_law 951 [] [] I R Q := by
  refine P_iconst (n := 0) (q := 952) rfl (by decide +kernel) ?_
  refine P_zret rfl (Or.inl rfl) (by decide +kernel) h
theorem S_L_law_953 {X : CX} {d d1 : Nat} {x3 : Int} {I R : PF} {Q Q1 : PV → PF → PF → Prop} (e1 : d1 + 1 ≤ d) (hc : CN X d1 mX10_on [(2, 64)] I R Q1) (h : ∀ z I2 R2, Q1 (0, z) I2 R2 → PL X d mL_law 957 [(2, 42), (2, 64), (2, 306), (0, x3)] [(0, z)] I2 R2 Q) : PL X d mL_law 953 [(2, 42), (2, 64), (2, 306), (0, x3)] [] I R Q := by
  refine P_aload_n (n := 1) (q := 954) rfl rfl (by decide +kernel) ?_
  refine P_invV (As := []) (q := 957) oX10_on rfl kM64 kL_134 e1 hMF (Nat.le_of_ble_eq_true rfl) hc rfl (by decide +kernel) (fun z I2 R2 hq => ?_)
  exact (h z I2 R2 hq)
theorem S_L_law_957 {X : CX} {d d1 : Nat} {x3 o0 : Int} {I R : PF} {Q Q1 : PV → PF → PF → Prop} (e1 : d1 + 1 ≤ d) (hc : CN X d1 mX11_on [(2, 306)] I R Q1) (h : ∀ z I2 R2, Q1 (0, z) I2 R2 → PL X d mL_law 961 [(2, 42), (2, 64), (2, 306), (0, x3)] [(0, z), (0, o0)] I2 R2 Q) : PL X d mL_law 957 [(2, 42), (2, 64), (2, 306), (0, x3)] [(0, o0)] I R Q := by
  refine P_aload_n (n := 2) (q := 958) rfl rfl (by decide +kernel) ?_
  refine P_invV (As := []) (q := 961) oX11_on rfl kM306 kL_137 e1 hMF (Nat.le_of_ble_eq_true rfl) hc rfl (by decide +kernel) (fun z I2 R2 hq => ?_)
  exact (h z I2 R2 hq)
theorem S_L_law_961 {X : CX} {d : Nat} {x3 o0 o1 : Int} {I R : PF} {Q : PV → PF → PF → Prop} (e9 : o0 = o1) (h1 : PL X d mL_law 989 [(2, 42), (2, 64), (2, 306), (0, x3)] [] I R Q) : PL X d mL_law 961 [(2, 42), (2, 64), (2, 306), (0, x3)] [(0, o1), (0, o0)] I R Q := by
  exact P_icmp_eq (off := 28) (t := 989) (q := 964) (by decide) rfl (by decide +kernel) (fun _ => h1) (fun g9 => absurd (congrArg w32 e9) g9)
theorem S_L_law_964 {X : CX} {d : Nat} {I R : PF} {Q : PV → PF → PF → Prop} (h : Q (0, 0) I R) : PL X d mL_law 964 [] [] I R Q := by
  refine P_iconst (n := 0) (q := 965) rfl (by decide +kernel) ?_
  refine P_zret rfl (Or.inl rfl) (by decide +kernel) h
theorem S_L_law_966 {X : CX} {d d1 : Nat} {x3 : Int} {I R : PF} {Q Q1 : PV → PF → PF → Prop} (b1 : 0 ≤ (x3 + 1) ∧ (x3 + 1) < (xN X : Int)) (n1 : xN X < 2147483648) (e1 : d1 + 1 ≤ d) (hc : CN X d1 mX10_status [(2, 64), (0, ((xV X ((x3 + 1)).toNat).toInt))] I R Q1) (h : ∀ z I2 R2, Q1 (0, z) I2 R2 → PL X d mL_law 975 [(2, 42), (2, 64), (2, 306), (0, x3)] [(0, z)] I2 R2 Q) : PL X d mL_law 966 [(2, 42), (2, 64), (2, 306), (0, x3)] [] I R Q := by
  refine P_aload_n (n := 1) (q := 967) rfl rfl (by decide +kernel) ?_
  refine P_aload_n (n := 0) (q := 968) rfl rfl (by decide +kernel) ?_
  refine P_iload_n (n := 3) (q := 969) rfl rfl (by decide +kernel) ?_
  refine P_iconst (n := 1) (q := 970) rfl (by decide +kernel) ?_
  refine P_iadd (q := 971) rfl (by decide +kernel) ?_
  refine B_ialoadX (q := 972) b1 n1 rfl (by decide +kernel) ?_
  refine P_invV (As := [(0, ((xV X ((x3 + 1)).toNat).toInt))]) (q := 975) oX10_status rfl kM64 kL_138 e1 hMF (Nat.le_of_ble_eq_true rfl) hc rfl (by decide +kernel) (fun z I2 R2 hq => ?_)
  exact (h z I2 R2 hq)
theorem S_L_law_975 {X : CX} {d d1 : Nat} {x3 o0 : Int} {I R : PF} {Q Q1 : PV → PF → PF → Prop} (b1 : 0 ≤ (x3 + 1) ∧ (x3 + 1) < (xN X : Int)) (n1 : xN X < 2147483648) (e1 : d1 + 1 ≤ d) (hc : CN X d1 mX11_status [(2, 306), (0, ((xV X ((x3 + 1)).toNat).toInt))] I R Q1) (h : ∀ z I2 R2, Q1 (0, z) I2 R2 → PL X d mL_law 984 [(2, 42), (2, 64), (2, 306), (0, x3)] [(0, z), (0, o0)] I2 R2 Q) : PL X d mL_law 975 [(2, 42), (2, 64), (2, 306), (0, x3)] [(0, o0)] I R Q := by
  refine P_aload_n (n := 2) (q := 976) rfl rfl (by decide +kernel) ?_
  refine P_aload_n (n := 0) (q := 977) rfl rfl (by decide +kernel) ?_
  refine P_iload_n (n := 3) (q := 978) rfl rfl (by decide +kernel) ?_
  refine P_iconst (n := 1) (q := 979) rfl (by decide +kernel) ?_
  refine P_iadd (q := 980) rfl (by decide +kernel) ?_
  refine B_ialoadX (q := 981) b1 n1 rfl (by decide +kernel) ?_
  refine P_invV (As := [(0, ((xV X ((x3 + 1)).toNat).toInt))]) (q := 984) oX11_status rfl kM306 kL_141 e1 hMF (Nat.le_of_ble_eq_true rfl) hc rfl (by decide +kernel) (fun z I2 R2 hq => ?_)
  exact (h z I2 R2 hq)
theorem S_L_law_984 {X : CX} {d : Nat} {x3 o0 o1 : Int} {I R : PF} {Q : PV → PF → PF → Prop} (e9 : o0 = o1) (h1 : PL X d mL_law 989 [(2, 42), (2, 64), (2, 306), (0, x3)] [] I R Q) : PL X d mL_law 984 [(2, 42), (2, 64), (2, 306), (0, x3)] [(0, o1), (0, o0)] I R Q := by
  exact P_icmp_eq (off := 5) (t := 989) (q := 987) (by decide) rfl (by decide +kernel) (fun _ => h1) (fun g9 => absurd (congrArg w32 e9) g9)
theorem S_L_law_987 {X : CX} {d : Nat} {I R : PF} {Q : PV → PF → PF → Prop} (h : Q (0, 0) I R) : PL X d mL_law 987 [] [] I R Q := by
  refine P_iconst (n := 0) (q := 988) rfl (by decide +kernel) ?_
  refine P_zret rfl (Or.inl rfl) (by decide +kernel) h
theorem S_L_law_989 {X : CX} {d : Nat} {x3 : Int} {I R : PF} {Q : PV → PF → PF → Prop} (h : PL X d mL_law 18 [(2, 42), (2, 64), (2, 306), (0, (x3 + 6))] [] I R Q) : PL X d mL_law 989 [(2, 42), (2, 64), (2, 306), (0, x3)] [] I R Q := by
  refine P_iinc (n := 3) (a := 6) (by decide) rfl (q := 992) rfl (by decide +kernel) ?_
  refine P_goto (off := (-974)) (t := 18) (by decide) (by decide +kernel) ?_
  exact h
theorem S_L_law_995 {X : CX} {d : Nat} {I R : PF} {Q : PV → PF → PF → Prop} (h : Q (0, 1) I R) : PL X d mL_law 995 [] [] I R Q := by
  refine P_iconst (n := 1) (q := 996) rfl (by decide +kernel) ?_
  refine P_zret rfl (Or.inr rfl) (by decide +kernel) h
