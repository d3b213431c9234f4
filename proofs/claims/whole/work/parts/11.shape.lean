/-! ===== the cells that both constructors make: kinds, lengths, references that stay ===== -/
def MX : PM := [(9, 20), (12, 1600), (12, 6), (5, 10), (2, 3), (12, 1600), (12, 64), (3, 4), (6, 15), (12, 6), (12, 6), (12, 81), (12, 33), (2, 3), (12, 1600), (12, 64), (2, 3), (12, 1600), (12, 64), (8, 5), (15, 6), (12, 8), (12, 8), (12, 8), (12, 8), (12, 8), (12, 8), (6, 15), (12, 6), (12, 6), (12, 81), (12, 33), (2, 3), (12, 1600), (12, 64), (2, 3), (12, 1600), (12, 64), (8, 5), (15, 6), (12, 8), (12, 8), (12, 8), (12, 8), (12, 8), (12, 8), (7, 3), (8, 5), (15, 6), (12, 8), (12, 8), (12, 8), (12, 8), (12, 8), (12, 8), (8, 5), (15, 6), (12, 8), (12, 8), (12, 8), (12, 8), (12, 8), (12, 8), (1, 16), (12, 6), (12, 6), (12, 81), (12, 13), (12, 10), (12, 60), (12, 81), (12, 6), (4, 6), (15, 3), (12, 999), (12, 999), (12, 999), (16, 20), (12, 20), (8, 5), (15, 6), (12, 8), (12, 8), (12, 8), (12, 8), (12, 8), (12, 8), (8, 5), (15, 6), (12, 8), (12, 8), (12, 8), (12, 8), (12, 8), (12, 8), (8, 5), (15, 6), (12, 8), (12, 8), (12, 8), (12, 8), (12, 8), (12, 8), (8, 5), (15, 6), (12, 8), (12, 8), (12, 8), (12, 8), (12, 8), (12, 8), (8, 5), (15, 6), (12, 8), (12, 8), (12, 8), (12, 8), (12, 8), (12, 8), (8, 5), (15, 6), (12, 8), (12, 8), (12, 8), (12, 8), (12, 8), (12, 8), (8, 5), (15, 6), (12, 8), (12, 8), (12, 8), (12, 8), (12, 8), (12, 8), (8, 5), (15, 6), (12, 8), (12, 8), (12, 8), (12, 8), (12, 8), (12, 8), (8, 5), (15, 6), (12, 8), (12, 8), (12, 8), (12, 8), (12, 8), (12, 8), (8, 5), (15, 6), (12, 8), (12, 8), (12, 8), (12, 8), (12, 8), (12, 8), (8, 5), (15, 6), (12, 8), (12, 8), (12, 8), (12, 8), (12, 8), (12, 8), (8, 5), (15, 6), (12, 8), (12, 8), (12, 8), (12, 8), (12, 8), (12, 8), (8, 5), (15, 6), (12, 8), (12, 8), (12, 8), (12, 8), (12, 8), (12, 8), (8, 5), (15, 6), (12, 8), (12, 8), (12, 8), (12, 8), (12, 8), (12, 8), (8, 5), (15, 6), (12, 8), (12, 8), (12, 8), (12, 8), (12, 8), (12, 8), (8, 5), (15, 6), (12, 8), (12, 8), (12, 8), (12, 8), (12, 8), (12, 8), (8, 5), (15, 6), (12, 8), (12, 8), (12, 8), (12, 8), (12, 8), (12, 8), (8, 5), (15, 6), (12, 8), (12, 8), (12, 8), (12, 8), (12, 8), (12, 8), (8, 5), (15, 6), (12, 8), (12, 8), (12, 8), (12, 8), (12, 8), (12, 8), (8, 5), (15, 6), (12, 8), (12, 8), (12, 8), (12, 8), (12, 8), (12, 8), (0, 2), (12, 7), (12, 41)]
def MM : PM := [(10, 115), (12, 1600), (12, 6), (14, 6), (14, 2), (14, 5), (14, 4), (14, 3), (14, 6), (14, 2), (14, 4), (14, 4), (14, 4), (14, 4), (14, 5), (14, 4), (14, 5), (14, 3), (14, 4), (14, 4), (14, 6), (14, 4), (14, 5), (14, 6), (14, 3), (14, 4), (14, 6), (14, 2), (14, 3), (14, 3), (14, 3), (14, 3), (14, 3), (12, 6), (13, 24), (12, 10), (12, 48), (12, 24), (12, 40), (12, 4), (12, 4), (12, 3200), (12, 154), (12, 33), (12, 6), (12, 6), (12, 6), (12, 7), (12, 3080), (14, 5), (14, 4), (14, 5), (14, 5), (14, 4), (14, 5), (14, 3), (14, 3), (14, 2), (14, 3), (14, 3), (14, 3), (14, 4), (14, 6), (14, 4), (14, 4), (14, 4), (14, 5), (14, 6), (14, 6), (14, 3), (14, 5), (14, 4), (14, 4), (12, 1700), (12, 1700), (13, 1700), (12, 41)]
def MF : PM := MX ++ MM
abbrev PN (X : CX) (d : Nat) (md : MD) (pc : Nat) (ls st : List PV) (I R : PF) (Q : PV → PF → PF → Prop) : Prop := PW X d MF md MF pc ls st I R MF Q
abbrev CN (X : CX) (d : Nat) (md : MD) (As : List PV) (I R : PF) (Q : PV → PF → PF → Prop) : Prop := Callee X d md MF MF As I R Q
theorem hMF : MF.length ≤ MF.length ∧ MF.length ≤ MF.length ∧ szM MF ≤ szM MF ∧ szM MF ≤ szM MF := ⟨Nat.le_refl _, Nat.le_refl _, Nat.le_refl _, Nat.le_refl _⟩
theorem kM64 : kd MF 64 = 9 := by decide +kernel
theorem kM65 : kd MF 65 = 12 := by decide +kernel
theorem nM65 : (ln MF 65 : Int) = 1600 := by decide +kernel
theorem kM66 : kd MF 66 = 12 := by decide +kernel
theorem nM66 : (ln MF 66 : Int) = 6 := by decide +kernel
theorem kM67 : kd MF 67 = 5 := by decide +kernel
theorem kM68 : kd MF 68 = 2 := by decide +kernel
theorem kM69 : kd MF 69 = 12 := by decide +kernel
theorem nM69 : (ln MF 69 : Int) = 1600 := by decide +kernel
theorem kM70 : kd MF 70 = 12 := by decide +kernel
theorem nM70 : (ln MF 70 : Int) = 64 := by decide +kernel
theorem kM71 : kd MF 71 = 3 := by decide +kernel
theorem kM72 : kd MF 72 = 6 := by decide +kernel
theorem kM73 : kd MF 73 = 12 := by decide +kernel
theorem nM73 : (ln MF 73 : Int) = 6 := by decide +kernel
theorem kM74 : kd MF 74 = 12 := by decide +kernel
theorem nM74 : (ln MF 74 : Int) = 6 := by decide +kernel
theorem kM75 : kd MF 75 = 12 := by decide +kernel
theorem nM75 : (ln MF 75 : Int) = 81 := by decide +kernel
theorem kM76 : kd MF 76 = 12 := by decide +kernel
theorem nM76 : (ln MF 76 : Int) = 33 := by decide +kernel
theorem kM77 : kd MF 77 = 2 := by decide +kernel
theorem kM78 : kd MF 78 = 12 := by decide +kernel
theorem nM78 : (ln MF 78 : Int) = 1600 := by decide +kernel
theorem kM79 : kd MF 79 = 12 := by decide +kernel
theorem nM79 : (ln MF 79 : Int) = 64 := by decide +kernel
theorem kM80 : kd MF 80 = 2 := by decide +kernel
theorem kM81 : kd MF 81 = 12 := by decide +kernel
theorem nM81 : (ln MF 81 : Int) = 1600 := by decide +kernel
theorem kM82 : kd MF 82 = 12 := by decide +kernel
theorem nM82 : (ln MF 82 : Int) = 64 := by decide +kernel
theorem kM83 : kd MF 83 = 8 := by decide +kernel
theorem kM84 : kd MF 84 = 15 := by decide +kernel
theorem nM84 : (ln MF 84 : Int) = 6 := by decide +kernel
theorem kM85 : kd MF 85 = 12 := by decide +kernel
theorem nM85 : (ln MF 85 : Int) = 8 := by decide +kernel
theorem kM86 : kd MF 86 = 12 := by decide +kernel
theorem nM86 : (ln MF 86 : Int) = 8 := by decide +kernel
theorem kM87 : kd MF 87 = 12 := by decide +kernel
theorem nM87 : (ln MF 87 : Int) = 8 := by decide +kernel
theorem kM88 : kd MF 88 = 12 := by decide +kernel
theorem nM88 : (ln MF 88 : Int) = 8 := by decide +kernel
theorem kM89 : kd MF 89 = 12 := by decide +kernel
theorem nM89 : (ln MF 89 : Int) = 8 := by decide +kernel
theorem kM90 : kd MF 90 = 12 := by decide +kernel
theorem nM90 : (ln MF 90 : Int) = 8 := by decide +kernel
theorem kM91 : kd MF 91 = 6 := by decide +kernel
theorem kM92 : kd MF 92 = 12 := by decide +kernel
theorem nM92 : (ln MF 92 : Int) = 6 := by decide +kernel
theorem kM93 : kd MF 93 = 12 := by decide +kernel
theorem nM93 : (ln MF 93 : Int) = 6 := by decide +kernel
theorem kM94 : kd MF 94 = 12 := by decide +kernel
theorem nM94 : (ln MF 94 : Int) = 81 := by decide +kernel
theorem kM95 : kd MF 95 = 12 := by decide +kernel
theorem nM95 : (ln MF 95 : Int) = 33 := by decide +kernel
theorem kM96 : kd MF 96 = 2 := by decide +kernel
theorem kM97 : kd MF 97 = 12 := by decide +kernel
theorem nM97 : (ln MF 97 : Int) = 1600 := by decide +kernel
theorem kM98 : kd MF 98 = 12 := by decide +kernel
theorem nM98 : (ln MF 98 : Int) = 64 := by decide +kernel
theorem kM99 : kd MF 99 = 2 := by decide +kernel
theorem kM100 : kd MF 100 = 12 := by decide +kernel
theorem nM100 : (ln MF 100 : Int) = 1600 := by decide +kernel
theorem kM101 : kd MF 101 = 12 := by decide +kernel
theorem nM101 : (ln MF 101 : Int) = 64 := by decide +kernel
theorem kM102 : kd MF 102 = 8 := by decide +kernel
theorem kM103 : kd MF 103 = 15 := by decide +kernel
theorem nM103 : (ln MF 103 : Int) = 6 := by decide +kernel
theorem kM104 : kd MF 104 = 12 := by decide +kernel
theorem nM104 : (ln MF 104 : Int) = 8 := by decide +kernel
theorem kM105 : kd MF 105 = 12 := by decide +kernel
theorem nM105 : (ln MF 105 : Int) = 8 := by decide +kernel
theorem kM106 : kd MF 106 = 12 := by decide +kernel
theorem nM106 : (ln MF 106 : Int) = 8 := by decide +kernel
theorem kM107 : kd MF 107 = 12 := by decide +kernel
theorem nM107 : (ln MF 107 : Int) = 8 := by decide +kernel
theorem kM108 : kd MF 108 = 12 := by decide +kernel
theorem nM108 : (ln MF 108 : Int) = 8 := by decide +kernel
theorem kM109 : kd MF 109 = 12 := by decide +kernel
theorem nM109 : (ln MF 109 : Int) = 8 := by decide +kernel
theorem kM110 : kd MF 110 = 7 := by decide +kernel
theorem kM111 : kd MF 111 = 8 := by decide +kernel
theorem kM112 : kd MF 112 = 15 := by decide +kernel
theorem nM112 : (ln MF 112 : Int) = 6 := by decide +kernel
theorem kM113 : kd MF 113 = 12 := by decide +kernel
theorem nM113 : (ln MF 113 : Int) = 8 := by decide +kernel
theorem kM114 : kd MF 114 = 12 := by decide +kernel
theorem nM114 : (ln MF 114 : Int) = 8 := by decide +kernel
theorem kM115 : kd MF 115 = 12 := by decide +kernel
theorem nM115 : (ln MF 115 : Int) = 8 := by decide +kernel
theorem kM116 : kd MF 116 = 12 := by decide +kernel
theorem nM116 : (ln MF 116 : Int) = 8 := by decide +kernel
theorem kM117 : kd MF 117 = 12 := by decide +kernel
theorem nM117 : (ln MF 117 : Int) = 8 := by decide +kernel
theorem kM118 : kd MF 118 = 12 := by decide +kernel
theorem nM118 : (ln MF 118 : Int) = 8 := by decide +kernel
theorem kM119 : kd MF 119 = 8 := by decide +kernel
theorem kM120 : kd MF 120 = 15 := by decide +kernel
theorem nM120 : (ln MF 120 : Int) = 6 := by decide +kernel
theorem kM121 : kd MF 121 = 12 := by decide +kernel
theorem nM121 : (ln MF 121 : Int) = 8 := by decide +kernel
theorem kM122 : kd MF 122 = 12 := by decide +kernel
theorem nM122 : (ln MF 122 : Int) = 8 := by decide +kernel
theorem kM123 : kd MF 123 = 12 := by decide +kernel
theorem nM123 : (ln MF 123 : Int) = 8 := by decide +kernel
theorem kM124 : kd MF 124 = 12 := by decide +kernel
theorem nM124 : (ln MF 124 : Int) = 8 := by decide +kernel
theorem kM125 : kd MF 125 = 12 := by decide +kernel
theorem nM125 : (ln MF 125 : Int) = 8 := by decide +kernel
theorem kM126 : kd MF 126 = 12 := by decide +kernel
theorem nM126 : (ln MF 126 : Int) = 8 := by decide +kernel
theorem kM127 : kd MF 127 = 1 := by decide +kernel
theorem kM128 : kd MF 128 = 12 := by decide +kernel
theorem nM128 : (ln MF 128 : Int) = 6 := by decide +kernel
theorem kM129 : kd MF 129 = 12 := by decide +kernel
theorem nM129 : (ln MF 129 : Int) = 6 := by decide +kernel
theorem kM130 : kd MF 130 = 12 := by decide +kernel
theorem nM130 : (ln MF 130 : Int) = 81 := by decide +kernel
theorem kM131 : kd MF 131 = 12 := by decide +kernel
theorem nM131 : (ln MF 131 : Int) = 13 := by decide +kernel
theorem kM132 : kd MF 132 = 12 := by decide +kernel
theorem nM132 : (ln MF 132 : Int) = 10 := by decide +kernel
theorem kM133 : kd MF 133 = 12 := by decide +kernel
theorem nM133 : (ln MF 133 : Int) = 60 := by decide +kernel
theorem kM134 : kd MF 134 = 12 := by decide +kernel
theorem nM134 : (ln MF 134 : Int) = 81 := by decide +kernel
theorem kM135 : kd MF 135 = 12 := by decide +kernel
theorem nM135 : (ln MF 135 : Int) = 6 := by decide +kernel
theorem kM136 : kd MF 136 = 4 := by decide +kernel
theorem kM137 : kd MF 137 = 15 := by decide +kernel
theorem nM137 : (ln MF 137 : Int) = 3 := by decide +kernel
theorem kM138 : kd MF 138 = 12 := by decide +kernel
theorem nM138 : (ln MF 138 : Int) = 999 := by decide +kernel
theorem kM139 : kd MF 139 = 12 := by decide +kernel
theorem nM139 : (ln MF 139 : Int) = 999 := by decide +kernel
theorem kM140 : kd MF 140 = 12 := by decide +kernel
theorem nM140 : (ln MF 140 : Int) = 999 := by decide +kernel
theorem kM141 : kd MF 141 = 16 := by decide +kernel
theorem nM141 : (ln MF 141 : Int) = 20 := by decide +kernel
theorem kM142 : kd MF 142 = 12 := by decide +kernel
theorem nM142 : (ln MF 142 : Int) = 20 := by decide +kernel
theorem kM143 : kd MF 143 = 8 := by decide +kernel
theorem kM144 : kd MF 144 = 15 := by decide +kernel
theorem nM144 : (ln MF 144 : Int) = 6 := by decide +kernel
theorem kM145 : kd MF 145 = 12 := by decide +kernel
theorem nM145 : (ln MF 145 : Int) = 8 := by decide +kernel
theorem kM146 : kd MF 146 = 12 := by decide +kernel
theorem nM146 : (ln MF 146 : Int) = 8 := by decide +kernel
theorem kM147 : kd MF 147 = 12 := by decide +kernel
theorem nM147 : (ln MF 147 : Int) = 8 := by decide +kernel
theorem kM148 : kd MF 148 = 12 := by decide +kernel
theorem nM148 : (ln MF 148 : Int) = 8 := by decide +kernel
theorem kM149 : kd MF 149 = 12 := by decide +kernel
theorem nM149 : (ln MF 149 : Int) = 8 := by decide +kernel
theorem kM150 : kd MF 150 = 12 := by decide +kernel
theorem nM150 : (ln MF 150 : Int) = 8 := by decide +kernel
theorem kM151 : kd MF 151 = 8 := by decide +kernel
theorem kM152 : kd MF 152 = 15 := by decide +kernel
theorem nM152 : (ln MF 152 : Int) = 6 := by decide +kernel
theorem kM153 : kd MF 153 = 12 := by decide +kernel
theorem nM153 : (ln MF 153 : Int) = 8 := by decide +kernel
theorem kM154 : kd MF 154 = 12 := by decide +kernel
theorem nM154 : (ln MF 154 : Int) = 8 := by decide +kernel
theorem kM155 : kd MF 155 = 12 := by decide +kernel
theorem nM155 : (ln MF 155 : Int) = 8 := by decide +kernel
theorem kM156 : kd MF 156 = 12 := by decide +kernel
theorem nM156 : (ln MF 156 : Int) = 8 := by decide +kernel
theorem kM157 : kd MF 157 = 12 := by decide +kernel
theorem nM157 : (ln MF 157 : Int) = 8 := by decide +kernel
theorem kM158 : kd MF 158 = 12 := by decide +kernel
theorem nM158 : (ln MF 158 : Int) = 8 := by decide +kernel
theorem kM159 : kd MF 159 = 8 := by decide +kernel
theorem kM160 : kd MF 160 = 15 := by decide +kernel
theorem nM160 : (ln MF 160 : Int) = 6 := by decide +kernel
theorem kM161 : kd MF 161 = 12 := by decide +kernel
theorem nM161 : (ln MF 161 : Int) = 8 := by decide +kernel
theorem kM162 : kd MF 162 = 12 := by decide +kernel
theorem nM162 : (ln MF 162 : Int) = 8 := by decide +kernel
theorem kM163 : kd MF 163 = 12 := by decide +kernel
theorem nM163 : (ln MF 163 : Int) = 8 := by decide +kernel
theorem kM164 : kd MF 164 = 12 := by decide +kernel
theorem nM164 : (ln MF 164 : Int) = 8 := by decide +kernel
theorem kM165 : kd MF 165 = 12 := by decide +kernel
theorem nM165 : (ln MF 165 : Int) = 8 := by decide +kernel
theorem kM166 : kd MF 166 = 12 := by decide +kernel
theorem nM166 : (ln MF 166 : Int) = 8 := by decide +kernel
theorem kM167 : kd MF 167 = 8 := by decide +kernel
theorem kM168 : kd MF 168 = 15 := by decide +kernel
theorem nM168 : (ln MF 168 : Int) = 6 := by decide +kernel
theorem kM169 : kd MF 169 = 12 := by decide +kernel
theorem nM169 : (ln MF 169 : Int) = 8 := by decide +kernel
theorem kM170 : kd MF 170 = 12 := by decide +kernel
theorem nM170 : (ln MF 170 : Int) = 8 := by decide +kernel
theorem kM171 : kd MF 171 = 12 := by decide +kernel
theorem nM171 : (ln MF 171 : Int) = 8 := by decide +kernel
theorem kM172 : kd MF 172 = 12 := by decide +kernel
theorem nM172 : (ln MF 172 : Int) = 8 := by decide +kernel
theorem kM173 : kd MF 173 = 12 := by decide +kernel
theorem nM173 : (ln MF 173 : Int) = 8 := by decide +kernel
theorem kM174 : kd MF 174 = 12 := by decide +kernel
theorem nM174 : (ln MF 174 : Int) = 8 := by decide +kernel
theorem kM175 : kd MF 175 = 8 := by decide +kernel
theorem kM176 : kd MF 176 = 15 := by decide +kernel
theorem nM176 : (ln MF 176 : Int) = 6 := by decide +kernel
theorem kM177 : kd MF 177 = 12 := by decide +kernel
theorem nM177 : (ln MF 177 : Int) = 8 := by decide +kernel
theorem kM178 : kd MF 178 = 12 := by decide +kernel
theorem nM178 : (ln MF 178 : Int) = 8 := by decide +kernel
theorem kM179 : kd MF 179 = 12 := by decide +kernel
theorem nM179 : (ln MF 179 : Int) = 8 := by decide +kernel
theorem kM180 : kd MF 180 = 12 := by decide +kernel
theorem nM180 : (ln MF 180 : Int) = 8 := by decide +kernel
theorem kM181 : kd MF 181 = 12 := by decide +kernel
theorem nM181 : (ln MF 181 : Int) = 8 := by decide +kernel
theorem kM182 : kd MF 182 = 12 := by decide +kernel
theorem nM182 : (ln MF 182 : Int) = 8 := by decide +kernel
theorem kM183 : kd MF 183 = 8 := by decide +kernel
theorem kM184 : kd MF 184 = 15 := by decide +kernel
theorem nM184 : (ln MF 184 : Int) = 6 := by decide +kernel
theorem kM185 : kd MF 185 = 12 := by decide +kernel
theorem nM185 : (ln MF 185 : Int) = 8 := by decide +kernel
theorem kM186 : kd MF 186 = 12 := by decide +kernel
theorem nM186 : (ln MF 186 : Int) = 8 := by decide +kernel
theorem kM187 : kd MF 187 = 12 := by decide +kernel
theorem nM187 : (ln MF 187 : Int) = 8 := by decide +kernel
theorem kM188 : kd MF 188 = 12 := by decide +kernel
theorem nM188 : (ln MF 188 : Int) = 8 := by decide +kernel
theorem kM189 : kd MF 189 = 12 := by decide +kernel
theorem nM189 : (ln MF 189 : Int) = 8 := by decide +kernel
theorem kM190 : kd MF 190 = 12 := by decide +kernel
theorem nM190 : (ln MF 190 : Int) = 8 := by decide +kernel
theorem kM191 : kd MF 191 = 8 := by decide +kernel
theorem kM192 : kd MF 192 = 15 := by decide +kernel
theorem nM192 : (ln MF 192 : Int) = 6 := by decide +kernel
theorem kM193 : kd MF 193 = 12 := by decide +kernel
theorem nM193 : (ln MF 193 : Int) = 8 := by decide +kernel
theorem kM194 : kd MF 194 = 12 := by decide +kernel
theorem nM194 : (ln MF 194 : Int) = 8 := by decide +kernel
theorem kM195 : kd MF 195 = 12 := by decide +kernel
theorem nM195 : (ln MF 195 : Int) = 8 := by decide +kernel
theorem kM196 : kd MF 196 = 12 := by decide +kernel
theorem nM196 : (ln MF 196 : Int) = 8 := by decide +kernel
theorem kM197 : kd MF 197 = 12 := by decide +kernel
theorem nM197 : (ln MF 197 : Int) = 8 := by decide +kernel
theorem kM198 : kd MF 198 = 12 := by decide +kernel
theorem nM198 : (ln MF 198 : Int) = 8 := by decide +kernel
theorem kM199 : kd MF 199 = 8 := by decide +kernel
theorem kM200 : kd MF 200 = 15 := by decide +kernel
theorem nM200 : (ln MF 200 : Int) = 6 := by decide +kernel
theorem kM201 : kd MF 201 = 12 := by decide +kernel
theorem nM201 : (ln MF 201 : Int) = 8 := by decide +kernel
theorem kM202 : kd MF 202 = 12 := by decide +kernel
theorem nM202 : (ln MF 202 : Int) = 8 := by decide +kernel
theorem kM203 : kd MF 203 = 12 := by decide +kernel
theorem nM203 : (ln MF 203 : Int) = 8 := by decide +kernel
theorem kM204 : kd MF 204 = 12 := by decide +kernel
theorem nM204 : (ln MF 204 : Int) = 8 := by decide +kernel
theorem kM205 : kd MF 205 = 12 := by decide +kernel
theorem nM205 : (ln MF 205 : Int) = 8 := by decide +kernel
theorem kM206 : kd MF 206 = 12 := by decide +kernel
theorem nM206 : (ln MF 206 : Int) = 8 := by decide +kernel
theorem kM207 : kd MF 207 = 8 := by decide +kernel
theorem kM208 : kd MF 208 = 15 := by decide +kernel
theorem nM208 : (ln MF 208 : Int) = 6 := by decide +kernel
theorem kM209 : kd MF 209 = 12 := by decide +kernel
theorem nM209 : (ln MF 209 : Int) = 8 := by decide +kernel
theorem kM210 : kd MF 210 = 12 := by decide +kernel
theorem nM210 : (ln MF 210 : Int) = 8 := by decide +kernel
theorem kM211 : kd MF 211 = 12 := by decide +kernel
theorem nM211 : (ln MF 211 : Int) = 8 := by decide +kernel
theorem kM212 : kd MF 212 = 12 := by decide +kernel
theorem nM212 : (ln MF 212 : Int) = 8 := by decide +kernel
theorem kM213 : kd MF 213 = 12 := by decide +kernel
theorem nM213 : (ln MF 213 : Int) = 8 := by decide +kernel
theorem kM214 : kd MF 214 = 12 := by decide +kernel
theorem nM214 : (ln MF 214 : Int) = 8 := by decide +kernel
theorem kM215 : kd MF 215 = 8 := by decide +kernel
theorem kM216 : kd MF 216 = 15 := by decide +kernel
theorem nM216 : (ln MF 216 : Int) = 6 := by decide +kernel
theorem kM217 : kd MF 217 = 12 := by decide +kernel
theorem nM217 : (ln MF 217 : Int) = 8 := by decide +kernel
theorem kM218 : kd MF 218 = 12 := by decide +kernel
theorem nM218 : (ln MF 218 : Int) = 8 := by decide +kernel
theorem kM219 : kd MF 219 = 12 := by decide +kernel
theorem nM219 : (ln MF 219 : Int) = 8 := by decide +kernel
theorem kM220 : kd MF 220 = 12 := by decide +kernel
theorem nM220 : (ln MF 220 : Int) = 8 := by decide +kernel
theorem kM221 : kd MF 221 = 12 := by decide +kernel
theorem nM221 : (ln MF 221 : Int) = 8 := by decide +kernel
theorem kM222 : kd MF 222 = 12 := by decide +kernel
theorem nM222 : (ln MF 222 : Int) = 8 := by decide +kernel
theorem kM223 : kd MF 223 = 8 := by decide +kernel
theorem kM224 : kd MF 224 = 15 := by decide +kernel
theorem nM224 : (ln MF 224 : Int) = 6 := by decide +kernel
theorem kM225 : kd MF 225 = 12 := by decide +kernel
theorem nM225 : (ln MF 225 : Int) = 8 := by decide +kernel
theorem kM226 : kd MF 226 = 12 := by decide +kernel
theorem nM226 : (ln MF 226 : Int) = 8 := by decide +kernel
theorem kM227 : kd MF 227 = 12 := by decide +kernel
theorem nM227 : (ln MF 227 : Int) = 8 := by decide +kernel
theorem kM228 : kd MF 228 = 12 := by decide +kernel
theorem nM228 : (ln MF 228 : Int) = 8 := by decide +kernel
theorem kM229 : kd MF 229 = 12 := by decide +kernel
theorem nM229 : (ln MF 229 : Int) = 8 := by decide +kernel
theorem kM230 : kd MF 230 = 12 := by decide +kernel
theorem nM230 : (ln MF 230 : Int) = 8 := by decide +kernel
theorem kM231 : kd MF 231 = 8 := by decide +kernel
theorem kM232 : kd MF 232 = 15 := by decide +kernel
theorem nM232 : (ln MF 232 : Int) = 6 := by decide +kernel
theorem kM233 : kd MF 233 = 12 := by decide +kernel
theorem nM233 : (ln MF 233 : Int) = 8 := by decide +kernel
theorem kM234 : kd MF 234 = 12 := by decide +kernel
theorem nM234 : (ln MF 234 : Int) = 8 := by decide +kernel
theorem kM235 : kd MF 235 = 12 := by decide +kernel
theorem nM235 : (ln MF 235 : Int) = 8 := by decide +kernel
theorem kM236 : kd MF 236 = 12 := by decide +kernel
theorem nM236 : (ln MF 236 : Int) = 8 := by decide +kernel
theorem kM237 : kd MF 237 = 12 := by decide +kernel
theorem nM237 : (ln MF 237 : Int) = 8 := by decide +kernel
theorem kM238 : kd MF 238 = 12 := by decide +kernel
theorem nM238 : (ln MF 238 : Int) = 8 := by decide +kernel
theorem kM239 : kd MF 239 = 8 := by decide +kernel
theorem kM240 : kd MF 240 = 15 := by decide +kernel
theorem nM240 : (ln MF 240 : Int) = 6 := by decide +kernel
theorem kM241 : kd MF 241 = 12 := by decide +kernel
theorem nM241 : (ln MF 241 : Int) = 8 := by decide +kernel
theorem kM242 : kd MF 242 = 12 := by decide +kernel
theorem nM242 : (ln MF 242 : Int) = 8 := by decide +kernel
theorem kM243 : kd MF 243 = 12 := by decide +kernel
theorem nM243 : (ln MF 243 : Int) = 8 := by decide +kernel
theorem kM244 : kd MF 244 = 12 := by decide +kernel
theorem nM244 : (ln MF 244 : Int) = 8 := by decide +kernel
theorem kM245 : kd MF 245 = 12 := by decide +kernel
theorem nM245 : (ln MF 245 : Int) = 8 := by decide +kernel
theorem kM246 : kd MF 246 = 12 := by decide +kernel
theorem nM246 : (ln MF 246 : Int) = 8 := by decide +kernel
theorem kM247 : kd MF 247 = 8 := by decide +kernel
theorem kM248 : kd MF 248 = 15 := by decide +kernel
theorem nM248 : (ln MF 248 : Int) = 6 := by decide +kernel
theorem kM249 : kd MF 249 = 12 := by decide +kernel
theorem nM249 : (ln MF 249 : Int) = 8 := by decide +kernel
theorem kM250 : kd MF 250 = 12 := by decide +kernel
theorem nM250 : (ln MF 250 : Int) = 8 := by decide +kernel
theorem kM251 : kd MF 251 = 12 := by decide +kernel
theorem nM251 : (ln MF 251 : Int) = 8 := by decide +kernel
theorem kM252 : kd MF 252 = 12 := by decide +kernel
theorem nM252 : (ln MF 252 : Int) = 8 := by decide +kernel
theorem kM253 : kd MF 253 = 12 := by decide +kernel
theorem nM253 : (ln MF 253 : Int) = 8 := by decide +kernel
theorem kM254 : kd MF 254 = 12 := by decide +kernel
theorem nM254 : (ln MF 254 : Int) = 8 := by decide +kernel
theorem kM255 : kd MF 255 = 8 := by decide +kernel
theorem kM256 : kd MF 256 = 15 := by decide +kernel
theorem nM256 : (ln MF 256 : Int) = 6 := by decide +kernel
theorem kM257 : kd MF 257 = 12 := by decide +kernel
theorem nM257 : (ln MF 257 : Int) = 8 := by decide +kernel
theorem kM258 : kd MF 258 = 12 := by decide +kernel
theorem nM258 : (ln MF 258 : Int) = 8 := by decide +kernel
theorem kM259 : kd MF 259 = 12 := by decide +kernel
theorem nM259 : (ln MF 259 : Int) = 8 := by decide +kernel
theorem kM260 : kd MF 260 = 12 := by decide +kernel
theorem nM260 : (ln MF 260 : Int) = 8 := by decide +kernel
theorem kM261 : kd MF 261 = 12 := by decide +kernel
theorem nM261 : (ln MF 261 : Int) = 8 := by decide +kernel
theorem kM262 : kd MF 262 = 12 := by decide +kernel
theorem nM262 : (ln MF 262 : Int) = 8 := by decide +kernel
theorem kM263 : kd MF 263 = 8 := by decide +kernel
theorem kM264 : kd MF 264 = 15 := by decide +kernel
theorem nM264 : (ln MF 264 : Int) = 6 := by decide +kernel
theorem kM265 : kd MF 265 = 12 := by decide +kernel
theorem nM265 : (ln MF 265 : Int) = 8 := by decide +kernel
theorem kM266 : kd MF 266 = 12 := by decide +kernel
theorem nM266 : (ln MF 266 : Int) = 8 := by decide +kernel
theorem kM267 : kd MF 267 = 12 := by decide +kernel
theorem nM267 : (ln MF 267 : Int) = 8 := by decide +kernel
theorem kM268 : kd MF 268 = 12 := by decide +kernel
theorem nM268 : (ln MF 268 : Int) = 8 := by decide +kernel
theorem kM269 : kd MF 269 = 12 := by decide +kernel
theorem nM269 : (ln MF 269 : Int) = 8 := by decide +kernel
theorem kM270 : kd MF 270 = 12 := by decide +kernel
theorem nM270 : (ln MF 270 : Int) = 8 := by decide +kernel
theorem kM271 : kd MF 271 = 8 := by decide +kernel
theorem kM272 : kd MF 272 = 15 := by decide +kernel
theorem nM272 : (ln MF 272 : Int) = 6 := by decide +kernel
theorem kM273 : kd MF 273 = 12 := by decide +kernel
theorem nM273 : (ln MF 273 : Int) = 8 := by decide +kernel
theorem kM274 : kd MF 274 = 12 := by decide +kernel
theorem nM274 : (ln MF 274 : Int) = 8 := by decide +kernel
theorem kM275 : kd MF 275 = 12 := by decide +kernel
theorem nM275 : (ln MF 275 : Int) = 8 := by decide +kernel
theorem kM276 : kd MF 276 = 12 := by decide +kernel
theorem nM276 : (ln MF 276 : Int) = 8 := by decide +kernel
theorem kM277 : kd MF 277 = 12 := by decide +kernel
theorem nM277 : (ln MF 277 : Int) = 8 := by decide +kernel
theorem kM278 : kd MF 278 = 12 := by decide +kernel
theorem nM278 : (ln MF 278 : Int) = 8 := by decide +kernel
theorem kM279 : kd MF 279 = 8 := by decide +kernel
theorem kM280 : kd MF 280 = 15 := by decide +kernel
theorem nM280 : (ln MF 280 : Int) = 6 := by decide +kernel
theorem kM281 : kd MF 281 = 12 := by decide +kernel
theorem nM281 : (ln MF 281 : Int) = 8 := by decide +kernel
theorem kM282 : kd MF 282 = 12 := by decide +kernel
theorem nM282 : (ln MF 282 : Int) = 8 := by decide +kernel
theorem kM283 : kd MF 283 = 12 := by decide +kernel
theorem nM283 : (ln MF 283 : Int) = 8 := by decide +kernel
theorem kM284 : kd MF 284 = 12 := by decide +kernel
theorem nM284 : (ln MF 284 : Int) = 8 := by decide +kernel
theorem kM285 : kd MF 285 = 12 := by decide +kernel
theorem nM285 : (ln MF 285 : Int) = 8 := by decide +kernel
theorem kM286 : kd MF 286 = 12 := by decide +kernel
theorem nM286 : (ln MF 286 : Int) = 8 := by decide +kernel
theorem kM287 : kd MF 287 = 8 := by decide +kernel
theorem kM288 : kd MF 288 = 15 := by decide +kernel
theorem nM288 : (ln MF 288 : Int) = 6 := by decide +kernel
theorem kM289 : kd MF 289 = 12 := by decide +kernel
theorem nM289 : (ln MF 289 : Int) = 8 := by decide +kernel
theorem kM290 : kd MF 290 = 12 := by decide +kernel
theorem nM290 : (ln MF 290 : Int) = 8 := by decide +kernel
theorem kM291 : kd MF 291 = 12 := by decide +kernel
theorem nM291 : (ln MF 291 : Int) = 8 := by decide +kernel
theorem kM292 : kd MF 292 = 12 := by decide +kernel
theorem nM292 : (ln MF 292 : Int) = 8 := by decide +kernel
theorem kM293 : kd MF 293 = 12 := by decide +kernel
theorem nM293 : (ln MF 293 : Int) = 8 := by decide +kernel
theorem kM294 : kd MF 294 = 12 := by decide +kernel
theorem nM294 : (ln MF 294 : Int) = 8 := by decide +kernel
theorem kM295 : kd MF 295 = 8 := by decide +kernel
theorem kM296 : kd MF 296 = 15 := by decide +kernel
theorem nM296 : (ln MF 296 : Int) = 6 := by decide +kernel
theorem kM297 : kd MF 297 = 12 := by decide +kernel
theorem nM297 : (ln MF 297 : Int) = 8 := by decide +kernel
theorem kM298 : kd MF 298 = 12 := by decide +kernel
theorem nM298 : (ln MF 298 : Int) = 8 := by decide +kernel
theorem kM299 : kd MF 299 = 12 := by decide +kernel
theorem nM299 : (ln MF 299 : Int) = 8 := by decide +kernel
theorem kM300 : kd MF 300 = 12 := by decide +kernel
theorem nM300 : (ln MF 300 : Int) = 8 := by decide +kernel
theorem kM301 : kd MF 301 = 12 := by decide +kernel
theorem nM301 : (ln MF 301 : Int) = 8 := by decide +kernel
theorem kM302 : kd MF 302 = 12 := by decide +kernel
theorem nM302 : (ln MF 302 : Int) = 8 := by decide +kernel
theorem kM303 : kd MF 303 = 0 := by decide +kernel
theorem kM304 : kd MF 304 = 12 := by decide +kernel
theorem nM304 : (ln MF 304 : Int) = 7 := by decide +kernel
theorem kM305 : kd MF 305 = 12 := by decide +kernel
theorem nM305 : (ln MF 305 : Int) = 41 := by decide +kernel
theorem kM306 : kd MF 306 = 10 := by decide +kernel
theorem kM307 : kd MF 307 = 12 := by decide +kernel
theorem nM307 : (ln MF 307 : Int) = 1600 := by decide +kernel
theorem kM308 : kd MF 308 = 12 := by decide +kernel
theorem nM308 : (ln MF 308 : Int) = 6 := by decide +kernel
theorem kM309 : kd MF 309 = 14 := by decide +kernel
theorem nM309 : (ln MF 309 : Int) = 6 := by decide +kernel
theorem kM310 : kd MF 310 = 14 := by decide +kernel
theorem nM310 : (ln MF 310 : Int) = 2 := by decide +kernel
theorem kM311 : kd MF 311 = 14 := by decide +kernel
theorem nM311 : (ln MF 311 : Int) = 5 := by decide +kernel
theorem kM312 : kd MF 312 = 14 := by decide +kernel
theorem nM312 : (ln MF 312 : Int) = 4 := by decide +kernel
theorem kM313 : kd MF 313 = 14 := by decide +kernel
theorem nM313 : (ln MF 313 : Int) = 3 := by decide +kernel
theorem kM314 : kd MF 314 = 14 := by decide +kernel
theorem nM314 : (ln MF 314 : Int) = 6 := by decide +kernel
theorem kM315 : kd MF 315 = 14 := by decide +kernel
theorem nM315 : (ln MF 315 : Int) = 2 := by decide +kernel
theorem kM316 : kd MF 316 = 14 := by decide +kernel
theorem nM316 : (ln MF 316 : Int) = 4 := by decide +kernel
theorem kM317 : kd MF 317 = 14 := by decide +kernel
theorem nM317 : (ln MF 317 : Int) = 4 := by decide +kernel
theorem kM318 : kd MF 318 = 14 := by decide +kernel
theorem nM318 : (ln MF 318 : Int) = 4 := by decide +kernel
theorem kM319 : kd MF 319 = 14 := by decide +kernel
theorem nM319 : (ln MF 319 : Int) = 4 := by decide +kernel
theorem kM320 : kd MF 320 = 14 := by decide +kernel
theorem nM320 : (ln MF 320 : Int) = 5 := by decide +kernel
theorem kM321 : kd MF 321 = 14 := by decide +kernel
theorem nM321 : (ln MF 321 : Int) = 4 := by decide +kernel
theorem kM322 : kd MF 322 = 14 := by decide +kernel
theorem nM322 : (ln MF 322 : Int) = 5 := by decide +kernel
theorem kM323 : kd MF 323 = 14 := by decide +kernel
theorem nM323 : (ln MF 323 : Int) = 3 := by decide +kernel
theorem kM324 : kd MF 324 = 14 := by decide +kernel
theorem nM324 : (ln MF 324 : Int) = 4 := by decide +kernel
theorem kM325 : kd MF 325 = 14 := by decide +kernel
theorem nM325 : (ln MF 325 : Int) = 4 := by decide +kernel
theorem kM326 : kd MF 326 = 14 := by decide +kernel
theorem nM326 : (ln MF 326 : Int) = 6 := by decide +kernel
theorem kM327 : kd MF 327 = 14 := by decide +kernel
theorem nM327 : (ln MF 327 : Int) = 4 := by decide +kernel
theorem kM328 : kd MF 328 = 14 := by decide +kernel
theorem nM328 : (ln MF 328 : Int) = 5 := by decide +kernel
theorem kM329 : kd MF 329 = 14 := by decide +kernel
theorem nM329 : (ln MF 329 : Int) = 6 := by decide +kernel
theorem kM330 : kd MF 330 = 14 := by decide +kernel
theorem nM330 : (ln MF 330 : Int) = 3 := by decide +kernel
theorem kM331 : kd MF 331 = 14 := by decide +kernel
theorem nM331 : (ln MF 331 : Int) = 4 := by decide +kernel
theorem kM332 : kd MF 332 = 14 := by decide +kernel
theorem nM332 : (ln MF 332 : Int) = 6 := by decide +kernel
theorem kM333 : kd MF 333 = 14 := by decide +kernel
theorem nM333 : (ln MF 333 : Int) = 2 := by decide +kernel
theorem kM334 : kd MF 334 = 14 := by decide +kernel
theorem nM334 : (ln MF 334 : Int) = 3 := by decide +kernel
theorem kM335 : kd MF 335 = 14 := by decide +kernel
theorem nM335 : (ln MF 335 : Int) = 3 := by decide +kernel
theorem kM336 : kd MF 336 = 14 := by decide +kernel
theorem nM336 : (ln MF 336 : Int) = 3 := by decide +kernel
theorem kM337 : kd MF 337 = 14 := by decide +kernel
theorem nM337 : (ln MF 337 : Int) = 3 := by decide +kernel
theorem kM338 : kd MF 338 = 14 := by decide +kernel
theorem nM338 : (ln MF 338 : Int) = 3 := by decide +kernel
theorem kM339 : kd MF 339 = 12 := by decide +kernel
theorem nM339 : (ln MF 339 : Int) = 6 := by decide +kernel
theorem kM340 : kd MF 340 = 13 := by decide +kernel
theorem nM340 : (ln MF 340 : Int) = 24 := by decide +kernel
theorem kM341 : kd MF 341 = 12 := by decide +kernel
theorem nM341 : (ln MF 341 : Int) = 10 := by decide +kernel
theorem kM342 : kd MF 342 = 12 := by decide +kernel
theorem nM342 : (ln MF 342 : Int) = 48 := by decide +kernel
theorem kM343 : kd MF 343 = 12 := by decide +kernel
theorem nM343 : (ln MF 343 : Int) = 24 := by decide +kernel
theorem kM344 : kd MF 344 = 12 := by decide +kernel
theorem nM344 : (ln MF 344 : Int) = 40 := by decide +kernel
theorem kM345 : kd MF 345 = 12 := by decide +kernel
theorem nM345 : (ln MF 345 : Int) = 4 := by decide +kernel
theorem kM346 : kd MF 346 = 12 := by decide +kernel
theorem nM346 : (ln MF 346 : Int) = 4 := by decide +kernel
theorem kM347 : kd MF 347 = 12 := by decide +kernel
theorem nM347 : (ln MF 347 : Int) = 3200 := by decide +kernel
theorem kM348 : kd MF 348 = 12 := by decide +kernel
theorem nM348 : (ln MF 348 : Int) = 154 := by decide +kernel
theorem kM349 : kd MF 349 = 12 := by decide +kernel
theorem nM349 : (ln MF 349 : Int) = 33 := by decide +kernel
theorem kM350 : kd MF 350 = 12 := by decide +kernel
theorem nM350 : (ln MF 350 : Int) = 6 := by decide +kernel
theorem kM351 : kd MF 351 = 12 := by decide +kernel
theorem nM351 : (ln MF 351 : Int) = 6 := by decide +kernel
theorem kM352 : kd MF 352 = 12 := by decide +kernel
theorem nM352 : (ln MF 352 : Int) = 6 := by decide +kernel
theorem kM353 : kd MF 353 = 12 := by decide +kernel
theorem nM353 : (ln MF 353 : Int) = 7 := by decide +kernel
theorem kM354 : kd MF 354 = 12 := by decide +kernel
theorem nM354 : (ln MF 354 : Int) = 3080 := by decide +kernel
theorem kM355 : kd MF 355 = 14 := by decide +kernel
theorem nM355 : (ln MF 355 : Int) = 5 := by decide +kernel
theorem kM356 : kd MF 356 = 14 := by decide +kernel
theorem nM356 : (ln MF 356 : Int) = 4 := by decide +kernel
theorem kM357 : kd MF 357 = 14 := by decide +kernel
theorem nM357 : (ln MF 357 : Int) = 5 := by decide +kernel
theorem kM358 : kd MF 358 = 14 := by decide +kernel
theorem nM358 : (ln MF 358 : Int) = 5 := by decide +kernel
theorem kM359 : kd MF 359 = 14 := by decide +kernel
theorem nM359 : (ln MF 359 : Int) = 4 := by decide +kernel
theorem kM360 : kd MF 360 = 14 := by decide +kernel
theorem nM360 : (ln MF 360 : Int) = 5 := by decide +kernel
theorem kM361 : kd MF 361 = 14 := by decide +kernel
theorem nM361 : (ln MF 361 : Int) = 3 := by decide +kernel
theorem kM362 : kd MF 362 = 14 := by decide +kernel
theorem nM362 : (ln MF 362 : Int) = 3 := by decide +kernel
theorem kM363 : kd MF 363 = 14 := by decide +kernel
theorem nM363 : (ln MF 363 : Int) = 2 := by decide +kernel
theorem kM364 : kd MF 364 = 14 := by decide +kernel
theorem nM364 : (ln MF 364 : Int) = 3 := by decide +kernel
theorem kM365 : kd MF 365 = 14 := by decide +kernel
theorem nM365 : (ln MF 365 : Int) = 3 := by decide +kernel
theorem kM366 : kd MF 366 = 14 := by decide +kernel
theorem nM366 : (ln MF 366 : Int) = 3 := by decide +kernel
theorem kM367 : kd MF 367 = 14 := by decide +kernel
theorem nM367 : (ln MF 367 : Int) = 4 := by decide +kernel
theorem kM368 : kd MF 368 = 14 := by decide +kernel
theorem nM368 : (ln MF 368 : Int) = 6 := by decide +kernel
theorem kM369 : kd MF 369 = 14 := by decide +kernel
theorem nM369 : (ln MF 369 : Int) = 4 := by decide +kernel
theorem kM370 : kd MF 370 = 14 := by decide +kernel
theorem nM370 : (ln MF 370 : Int) = 4 := by decide +kernel
theorem kM371 : kd MF 371 = 14 := by decide +kernel
theorem nM371 : (ln MF 371 : Int) = 4 := by decide +kernel
theorem kM372 : kd MF 372 = 14 := by decide +kernel
theorem nM372 : (ln MF 372 : Int) = 5 := by decide +kernel
theorem kM373 : kd MF 373 = 14 := by decide +kernel
theorem nM373 : (ln MF 373 : Int) = 6 := by decide +kernel
theorem kM374 : kd MF 374 = 14 := by decide +kernel
theorem nM374 : (ln MF 374 : Int) = 6 := by decide +kernel
theorem kM375 : kd MF 375 = 14 := by decide +kernel
theorem nM375 : (ln MF 375 : Int) = 3 := by decide +kernel
theorem kM376 : kd MF 376 = 14 := by decide +kernel
theorem nM376 : (ln MF 376 : Int) = 5 := by decide +kernel
theorem kM377 : kd MF 377 = 14 := by decide +kernel
theorem nM377 : (ln MF 377 : Int) = 4 := by decide +kernel
theorem kM378 : kd MF 378 = 14 := by decide +kernel
theorem nM378 : (ln MF 378 : Int) = 4 := by decide +kernel
theorem kM379 : kd MF 379 = 12 := by decide +kernel
theorem nM379 : (ln MF 379 : Int) = 1700 := by decide +kernel
theorem kM380 : kd MF 380 = 12 := by decide +kernel
theorem nM380 : (ln MF 380 : Int) = 1700 := by decide +kernel
theorem kM381 : kd MF 381 = 13 := by decide +kernel
theorem nM381 : (ln MF 381 : Int) = 1700 := by decide +kernel
theorem kM382 : kd MF 382 = 12 := by decide +kernel
theorem nM382 : (ln MF 382 : Int) = 41 := by decide +kernel
def shpL : List (Int × Int × Int) := [(64, 0, 65), (64, 2, 66), (64, 5, 67), (64, 6, 68), (64, 7, 71), (64, 10, 110), (64, 11, 111), (64, 12, 119), (64, 13, 127), (64, 14, 136), (64, 15, 303), (64, 16, 304), (64, 18, 305), (67, 0, 65), (71, 0, 67), (110, 0, 67), (110, 1, 71), (127, 8, 128), (127, 9, 129), (127, 10, 130), (127, 11, 131), (127, 12, 132), (127, 13, 133), (127, 14, 134), (127, 15, 135), (136, 0, 137), (136, 2, 141), (136, 3, 142), (137, 0, 138), (137, 1, 139), (137, 2, 140), (141, 0, 143), (141, 1, 151), (141, 2, 159), (141, 3, 167), (141, 4, 175), (141, 5, 183), (141, 6, 191), (141, 7, 199), (141, 8, 207), (141, 9, 215), (141, 10, 223), (141, 11, 231), (141, 12, 239), (141, 13, 247), (141, 14, 255), (141, 15, 263), (141, 16, 271), (141, 17, 279), (141, 18, 287), (141, 19, 295), (306, 0, 307), (306, 9, 308), (306, 11, 309), (306, 12, 310), (306, 13, 311), (306, 14, 312), (306, 15, 313), (306, 16, 314), (306, 17, 315), (306, 18, 316), (306, 19, 317), (306, 20, 318), (306, 21, 319), (306, 22, 320), (306, 23, 321), (306, 24, 322), (306, 25, 323), (306, 26, 324), (306, 27, 325), (306, 28, 326), (306, 29, 327), (306, 30, 328), (306, 31, 329), (306, 32, 330), (306, 33, 331), (306, 34, 332), (306, 35, 333), (306, 36, 334), (306, 37, 335), (306, 38, 336), (306, 39, 337), (306, 40, 338), (306, 42, 339), (306, 43, 340), (306, 44, 341), (306, 45, 342), (306, 46, 343), (306, 47, 344), (306, 50, 345), (306, 51, 346), (306, 52, 347), (306, 59, 348), (306, 60, 349), (306, 63, 350), (306, 67, 351), (306, 68, 352), (306, 74, 353), (306, 75, 354), (306, 79, 355), (306, 80, 356), (306, 81, 357), (306, 82, 358), (306, 83, 359), (306, 84, 360), (306, 85, 361), (306, 86, 362), (306, 87, 363), (306, 88, 364), (306, 89, 365), (306, 90, 366), (306, 91, 367), (306, 92, 368), (306, 93, 369), (306, 94, 370), (306, 95, 371), (306, 96, 372), (306, 97, 373), (306, 98, 374), (306, 99, 375), (306, 100, 376), (306, 101, 377), (306, 102, 378), (306, 103, 379), (306, 105, 380), (306, 109, 381), (306, 113, 382)]
/-- the references that stay, once both objects are made -/
def Shp (R : PF) : Prop := (∀ t ∈ shpL, R t.1 t.2.1 = t.2.2) ∧ (∀ o, kd MF o = 8 → R o 4 = o + 1 ∧ ∀ p, 0 ≤ p → p < 6 → R (o + 1) p = o + 2 + p) ∧ (∀ o, kd MF o = 2 → R o 0 = o + 1 ∧ R o 1 = o + 2) ∧
  (∀ o, kd MF o = 6 → R o 8 = o + 1 ∧ R o 9 = o + 2 ∧ R o 10 = o + 3 ∧ R o 11 = o + 4 ∧ R o 12 = o + 5 ∧ R o 13 = o + 8 ∧ R o 14 = o + 11)
theorem rM64_0 {R : PF} (h : Shp R) : R 64 0 = 65 := h.1 (64, 0, 65) (List.mem_of_getElem? (i := 0) rfl)
theorem rM64_2 {R : PF} (h : Shp R) : R 64 2 = 66 := h.1 (64, 2, 66) (List.mem_of_getElem? (i := 1) rfl)
theorem rM64_5 {R : PF} (h : Shp R) : R 64 5 = 67 := h.1 (64, 5, 67) (List.mem_of_getElem? (i := 2) rfl)
theorem rM64_6 {R : PF} (h : Shp R) : R 64 6 = 68 := h.1 (64, 6, 68) (List.mem_of_getElem? (i := 3) rfl)
theorem rM64_7 {R : PF} (h : Shp R) : R 64 7 = 71 := h.1 (64, 7, 71) (List.mem_of_getElem? (i := 4) rfl)
theorem rM64_10 {R : PF} (h : Shp R) : R 64 10 = 110 := h.1 (64, 10, 110) (List.mem_of_getElem? (i := 5) rfl)
theorem rM64_11 {R : PF} (h : Shp R) : R 64 11 = 111 := h.1 (64, 11, 111) (List.mem_of_getElem? (i := 6) rfl)
theorem rM64_12 {R : PF} (h : Shp R) : R 64 12 = 119 := h.1 (64, 12, 119) (List.mem_of_getElem? (i := 7) rfl)
theorem rM64_13 {R : PF} (h : Shp R) : R 64 13 = 127 := h.1 (64, 13, 127) (List.mem_of_getElem? (i := 8) rfl)
theorem rM64_14 {R : PF} (h : Shp R) : R 64 14 = 136 := h.1 (64, 14, 136) (List.mem_of_getElem? (i := 9) rfl)
theorem rM64_15 {R : PF} (h : Shp R) : R 64 15 = 303 := h.1 (64, 15, 303) (List.mem_of_getElem? (i := 10) rfl)
theorem rM64_16 {R : PF} (h : Shp R) : R 64 16 = 304 := h.1 (64, 16, 304) (List.mem_of_getElem? (i := 11) rfl)
theorem rM64_18 {R : PF} (h : Shp R) : R 64 18 = 305 := h.1 (64, 18, 305) (List.mem_of_getElem? (i := 12) rfl)
theorem rM67_0 {R : PF} (h : Shp R) : R 67 0 = 65 := h.1 (67, 0, 65) (List.mem_of_getElem? (i := 13) rfl)
theorem rM71_0 {R : PF} (h : Shp R) : R 71 0 = 67 := h.1 (71, 0, 67) (List.mem_of_getElem? (i := 14) rfl)
theorem rM110_0 {R : PF} (h : Shp R) : R 110 0 = 67 := h.1 (110, 0, 67) (List.mem_of_getElem? (i := 15) rfl)
theorem rM110_1 {R : PF} (h : Shp R) : R 110 1 = 71 := h.1 (110, 1, 71) (List.mem_of_getElem? (i := 16) rfl)
theorem rM127_8 {R : PF} (h : Shp R) : R 127 8 = 128 := h.1 (127, 8, 128) (List.mem_of_getElem? (i := 17) rfl)
theorem rM127_9 {R : PF} (h : Shp R) : R 127 9 = 129 := h.1 (127, 9, 129) (List.mem_of_getElem? (i := 18) rfl)
theorem rM127_10 {R : PF} (h : Shp R) : R 127 10 = 130 := h.1 (127, 10, 130) (List.mem_of_getElem? (i := 19) rfl)
theorem rM127_11 {R : PF} (h : Shp R) : R 127 11 = 131 := h.1 (127, 11, 131) (List.mem_of_getElem? (i := 20) rfl)
theorem rM127_12 {R : PF} (h : Shp R) : R 127 12 = 132 := h.1 (127, 12, 132) (List.mem_of_getElem? (i := 21) rfl)
theorem rM127_13 {R : PF} (h : Shp R) : R 127 13 = 133 := h.1 (127, 13, 133) (List.mem_of_getElem? (i := 22) rfl)
theorem rM127_14 {R : PF} (h : Shp R) : R 127 14 = 134 := h.1 (127, 14, 134) (List.mem_of_getElem? (i := 23) rfl)
theorem rM127_15 {R : PF} (h : Shp R) : R 127 15 = 135 := h.1 (127, 15, 135) (List.mem_of_getElem? (i := 24) rfl)
theorem rM136_0 {R : PF} (h : Shp R) : R 136 0 = 137 := h.1 (136, 0, 137) (List.mem_of_getElem? (i := 25) rfl)
theorem rM136_2 {R : PF} (h : Shp R) : R 136 2 = 141 := h.1 (136, 2, 141) (List.mem_of_getElem? (i := 26) rfl)
theorem rM136_3 {R : PF} (h : Shp R) : R 136 3 = 142 := h.1 (136, 3, 142) (List.mem_of_getElem? (i := 27) rfl)
theorem rM137_0 {R : PF} (h : Shp R) : R 137 0 = 138 := h.1 (137, 0, 138) (List.mem_of_getElem? (i := 28) rfl)
theorem rM137_1 {R : PF} (h : Shp R) : R 137 1 = 139 := h.1 (137, 1, 139) (List.mem_of_getElem? (i := 29) rfl)
theorem rM137_2 {R : PF} (h : Shp R) : R 137 2 = 140 := h.1 (137, 2, 140) (List.mem_of_getElem? (i := 30) rfl)
theorem rM141_0 {R : PF} (h : Shp R) : R 141 0 = 143 := h.1 (141, 0, 143) (List.mem_of_getElem? (i := 31) rfl)
theorem rM141_1 {R : PF} (h : Shp R) : R 141 1 = 151 := h.1 (141, 1, 151) (List.mem_of_getElem? (i := 32) rfl)
theorem rM141_2 {R : PF} (h : Shp R) : R 141 2 = 159 := h.1 (141, 2, 159) (List.mem_of_getElem? (i := 33) rfl)
theorem rM141_3 {R : PF} (h : Shp R) : R 141 3 = 167 := h.1 (141, 3, 167) (List.mem_of_getElem? (i := 34) rfl)
theorem rM141_4 {R : PF} (h : Shp R) : R 141 4 = 175 := h.1 (141, 4, 175) (List.mem_of_getElem? (i := 35) rfl)
theorem rM141_5 {R : PF} (h : Shp R) : R 141 5 = 183 := h.1 (141, 5, 183) (List.mem_of_getElem? (i := 36) rfl)
theorem rM141_6 {R : PF} (h : Shp R) : R 141 6 = 191 := h.1 (141, 6, 191) (List.mem_of_getElem? (i := 37) rfl)
theorem rM141_7 {R : PF} (h : Shp R) : R 141 7 = 199 := h.1 (141, 7, 199) (List.mem_of_getElem? (i := 38) rfl)
theorem rM141_8 {R : PF} (h : Shp R) : R 141 8 = 207 := h.1 (141, 8, 207) (List.mem_of_getElem? (i := 39) rfl)
theorem rM141_9 {R : PF} (h : Shp R) : R 141 9 = 215 := h.1 (141, 9, 215) (List.mem_of_getElem? (i := 40) rfl)
theorem rM141_10 {R : PF} (h : Shp R) : R 141 10 = 223 := h.1 (141, 10, 223) (List.mem_of_getElem? (i := 41) rfl)
theorem rM141_11 {R : PF} (h : Shp R) : R 141 11 = 231 := h.1 (141, 11, 231) (List.mem_of_getElem? (i := 42) rfl)
theorem rM141_12 {R : PF} (h : Shp R) : R 141 12 = 239 := h.1 (141, 12, 239) (List.mem_of_getElem? (i := 43) rfl)
theorem rM141_13 {R : PF} (h : Shp R) : R 141 13 = 247 := h.1 (141, 13, 247) (List.mem_of_getElem? (i := 44) rfl)
theorem rM141_14 {R : PF} (h : Shp R) : R 141 14 = 255 := h.1 (141, 14, 255) (List.mem_of_getElem? (i := 45) rfl)
theorem rM141_15 {R : PF} (h : Shp R) : R 141 15 = 263 := h.1 (141, 15, 263) (List.mem_of_getElem? (i := 46) rfl)
theorem rM141_16 {R : PF} (h : Shp R) : R 141 16 = 271 := h.1 (141, 16, 271) (List.mem_of_getElem? (i := 47) rfl)
theorem rM141_17 {R : PF} (h : Shp R) : R 141 17 = 279 := h.1 (141, 17, 279) (List.mem_of_getElem? (i := 48) rfl)
theorem rM141_18 {R : PF} (h : Shp R) : R 141 18 = 287 := h.1 (141, 18, 287) (List.mem_of_getElem? (i := 49) rfl)
theorem rM141_19 {R : PF} (h : Shp R) : R 141 19 = 295 := h.1 (141, 19, 295) (List.mem_of_getElem? (i := 50) rfl)
theorem rM306_0 {R : PF} (h : Shp R) : R 306 0 = 307 := h.1 (306, 0, 307) (List.mem_of_getElem? (i := 51) rfl)
theorem rM306_9 {R : PF} (h : Shp R) : R 306 9 = 308 := h.1 (306, 9, 308) (List.mem_of_getElem? (i := 52) rfl)
theorem rM306_11 {R : PF} (h : Shp R) : R 306 11 = 309 := h.1 (306, 11, 309) (List.mem_of_getElem? (i := 53) rfl)
theorem rM306_12 {R : PF} (h : Shp R) : R 306 12 = 310 := h.1 (306, 12, 310) (List.mem_of_getElem? (i := 54) rfl)
theorem rM306_13 {R : PF} (h : Shp R) : R 306 13 = 311 := h.1 (306, 13, 311) (List.mem_of_getElem? (i := 55) rfl)
theorem rM306_14 {R : PF} (h : Shp R) : R 306 14 = 312 := h.1 (306, 14, 312) (List.mem_of_getElem? (i := 56) rfl)
theorem rM306_15 {R : PF} (h : Shp R) : R 306 15 = 313 := h.1 (306, 15, 313) (List.mem_of_getElem? (i := 57) rfl)
theorem rM306_16 {R : PF} (h : Shp R) : R 306 16 = 314 := h.1 (306, 16, 314) (List.mem_of_getElem? (i := 58) rfl)
theorem rM306_17 {R : PF} (h : Shp R) : R 306 17 = 315 := h.1 (306, 17, 315) (List.mem_of_getElem? (i := 59) rfl)
theorem rM306_18 {R : PF} (h : Shp R) : R 306 18 = 316 := h.1 (306, 18, 316) (List.mem_of_getElem? (i := 60) rfl)
theorem rM306_19 {R : PF} (h : Shp R) : R 306 19 = 317 := h.1 (306, 19, 317) (List.mem_of_getElem? (i := 61) rfl)
theorem rM306_20 {R : PF} (h : Shp R) : R 306 20 = 318 := h.1 (306, 20, 318) (List.mem_of_getElem? (i := 62) rfl)
theorem rM306_21 {R : PF} (h : Shp R) : R 306 21 = 319 := h.1 (306, 21, 319) (List.mem_of_getElem? (i := 63) rfl)
theorem rM306_22 {R : PF} (h : Shp R) : R 306 22 = 320 := h.1 (306, 22, 320) (List.mem_of_getElem? (i := 64) rfl)
theorem rM306_23 {R : PF} (h : Shp R) : R 306 23 = 321 := h.1 (306, 23, 321) (List.mem_of_getElem? (i := 65) rfl)
theorem rM306_24 {R : PF} (h : Shp R) : R 306 24 = 322 := h.1 (306, 24, 322) (List.mem_of_getElem? (i := 66) rfl)
theorem rM306_25 {R : PF} (h : Shp R) : R 306 25 = 323 := h.1 (306, 25, 323) (List.mem_of_getElem? (i := 67) rfl)
theorem rM306_26 {R : PF} (h : Shp R) : R 306 26 = 324 := h.1 (306, 26, 324) (List.mem_of_getElem? (i := 68) rfl)
theorem rM306_27 {R : PF} (h : Shp R) : R 306 27 = 325 := h.1 (306, 27, 325) (List.mem_of_getElem? (i := 69) rfl)
theorem rM306_28 {R : PF} (h : Shp R) : R 306 28 = 326 := h.1 (306, 28, 326) (List.mem_of_getElem? (i := 70) rfl)
theorem rM306_29 {R : PF} (h : Shp R) : R 306 29 = 327 := h.1 (306, 29, 327) (List.mem_of_getElem? (i := 71) rfl)
theorem rM306_30 {R : PF} (h : Shp R) : R 306 30 = 328 := h.1 (306, 30, 328) (List.mem_of_getElem? (i := 72) rfl)
theorem rM306_31 {R : PF} (h : Shp R) : R 306 31 = 329 := h.1 (306, 31, 329) (List.mem_of_getElem? (i := 73) rfl)
theorem rM306_32 {R : PF} (h : Shp R) : R 306 32 = 330 := h.1 (306, 32, 330) (List.mem_of_getElem? (i := 74) rfl)
theorem rM306_33 {R : PF} (h : Shp R) : R 306 33 = 331 := h.1 (306, 33, 331) (List.mem_of_getElem? (i := 75) rfl)
theorem rM306_34 {R : PF} (h : Shp R) : R 306 34 = 332 := h.1 (306, 34, 332) (List.mem_of_getElem? (i := 76) rfl)
theorem rM306_35 {R : PF} (h : Shp R) : R 306 35 = 333 := h.1 (306, 35, 333) (List.mem_of_getElem? (i := 77) rfl)
theorem rM306_36 {R : PF} (h : Shp R) : R 306 36 = 334 := h.1 (306, 36, 334) (List.mem_of_getElem? (i := 78) rfl)
theorem rM306_37 {R : PF} (h : Shp R) : R 306 37 = 335 := h.1 (306, 37, 335) (List.mem_of_getElem? (i := 79) rfl)
theorem rM306_38 {R : PF} (h : Shp R) : R 306 38 = 336 := h.1 (306, 38, 336) (List.mem_of_getElem? (i := 80) rfl)
theorem rM306_39 {R : PF} (h : Shp R) : R 306 39 = 337 := h.1 (306, 39, 337) (List.mem_of_getElem? (i := 81) rfl)
theorem rM306_40 {R : PF} (h : Shp R) : R 306 40 = 338 := h.1 (306, 40, 338) (List.mem_of_getElem? (i := 82) rfl)
theorem rM306_42 {R : PF} (h : Shp R) : R 306 42 = 339 := h.1 (306, 42, 339) (List.mem_of_getElem? (i := 83) rfl)
theorem rM306_43 {R : PF} (h : Shp R) : R 306 43 = 340 := h.1 (306, 43, 340) (List.mem_of_getElem? (i := 84) rfl)
theorem rM306_44 {R : PF} (h : Shp R) : R 306 44 = 341 := h.1 (306, 44, 341) (List.mem_of_getElem? (i := 85) rfl)
theorem rM306_45 {R : PF} (h : Shp R) : R 306 45 = 342 := h.1 (306, 45, 342) (List.mem_of_getElem? (i := 86) rfl)
theorem rM306_46 {R : PF} (h : Shp R) : R 306 46 = 343 := h.1 (306, 46, 343) (List.mem_of_getElem? (i := 87) rfl)
theorem rM306_47 {R : PF} (h : Shp R) : R 306 47 = 344 := h.1 (306, 47, 344) (List.mem_of_getElem? (i := 88) rfl)
theorem rM306_50 {R : PF} (h : Shp R) : R 306 50 = 345 := h.1 (306, 50, 345) (List.mem_of_getElem? (i := 89) rfl)
theorem rM306_51 {R : PF} (h : Shp R) : R 306 51 = 346 := h.1 (306, 51, 346) (List.mem_of_getElem? (i := 90) rfl)
theorem rM306_52 {R : PF} (h : Shp R) : R 306 52 = 347 := h.1 (306, 52, 347) (List.mem_of_getElem? (i := 91) rfl)
theorem rM306_59 {R : PF} (h : Shp R) : R 306 59 = 348 := h.1 (306, 59, 348) (List.mem_of_getElem? (i := 92) rfl)
theorem rM306_60 {R : PF} (h : Shp R) : R 306 60 = 349 := h.1 (306, 60, 349) (List.mem_of_getElem? (i := 93) rfl)
theorem rM306_63 {R : PF} (h : Shp R) : R 306 63 = 350 := h.1 (306, 63, 350) (List.mem_of_getElem? (i := 94) rfl)
theorem rM306_67 {R : PF} (h : Shp R) : R 306 67 = 351 := h.1 (306, 67, 351) (List.mem_of_getElem? (i := 95) rfl)
theorem rM306_68 {R : PF} (h : Shp R) : R 306 68 = 352 := h.1 (306, 68, 352) (List.mem_of_getElem? (i := 96) rfl)
theorem rM306_74 {R : PF} (h : Shp R) : R 306 74 = 353 := h.1 (306, 74, 353) (List.mem_of_getElem? (i := 97) rfl)
theorem rM306_75 {R : PF} (h : Shp R) : R 306 75 = 354 := h.1 (306, 75, 354) (List.mem_of_getElem? (i := 98) rfl)
theorem rM306_79 {R : PF} (h : Shp R) : R 306 79 = 355 := h.1 (306, 79, 355) (List.mem_of_getElem? (i := 99) rfl)
theorem rM306_80 {R : PF} (h : Shp R) : R 306 80 = 356 := h.1 (306, 80, 356) (List.mem_of_getElem? (i := 100) rfl)
theorem rM306_81 {R : PF} (h : Shp R) : R 306 81 = 357 := h.1 (306, 81, 357) (List.mem_of_getElem? (i := 101) rfl)
theorem rM306_82 {R : PF} (h : Shp R) : R 306 82 = 358 := h.1 (306, 82, 358) (List.mem_of_getElem? (i := 102) rfl)
theorem rM306_83 {R : PF} (h : Shp R) : R 306 83 = 359 := h.1 (306, 83, 359) (List.mem_of_getElem? (i := 103) rfl)
theorem rM306_84 {R : PF} (h : Shp R) : R 306 84 = 360 := h.1 (306, 84, 360) (List.mem_of_getElem? (i := 104) rfl)
theorem rM306_85 {R : PF} (h : Shp R) : R 306 85 = 361 := h.1 (306, 85, 361) (List.mem_of_getElem? (i := 105) rfl)
theorem rM306_86 {R : PF} (h : Shp R) : R 306 86 = 362 := h.1 (306, 86, 362) (List.mem_of_getElem? (i := 106) rfl)
theorem rM306_87 {R : PF} (h : Shp R) : R 306 87 = 363 := h.1 (306, 87, 363) (List.mem_of_getElem? (i := 107) rfl)
theorem rM306_88 {R : PF} (h : Shp R) : R 306 88 = 364 := h.1 (306, 88, 364) (List.mem_of_getElem? (i := 108) rfl)
theorem rM306_89 {R : PF} (h : Shp R) : R 306 89 = 365 := h.1 (306, 89, 365) (List.mem_of_getElem? (i := 109) rfl)
theorem rM306_90 {R : PF} (h : Shp R) : R 306 90 = 366 := h.1 (306, 90, 366) (List.mem_of_getElem? (i := 110) rfl)
theorem rM306_91 {R : PF} (h : Shp R) : R 306 91 = 367 := h.1 (306, 91, 367) (List.mem_of_getElem? (i := 111) rfl)
theorem rM306_92 {R : PF} (h : Shp R) : R 306 92 = 368 := h.1 (306, 92, 368) (List.mem_of_getElem? (i := 112) rfl)
theorem rM306_93 {R : PF} (h : Shp R) : R 306 93 = 369 := h.1 (306, 93, 369) (List.mem_of_getElem? (i := 113) rfl)
theorem rM306_94 {R : PF} (h : Shp R) : R 306 94 = 370 := h.1 (306, 94, 370) (List.mem_of_getElem? (i := 114) rfl)
theorem rM306_95 {R : PF} (h : Shp R) : R 306 95 = 371 := h.1 (306, 95, 371) (List.mem_of_getElem? (i := 115) rfl)
theorem rM306_96 {R : PF} (h : Shp R) : R 306 96 = 372 := h.1 (306, 96, 372) (List.mem_of_getElem? (i := 116) rfl)
theorem rM306_97 {R : PF} (h : Shp R) : R 306 97 = 373 := h.1 (306, 97, 373) (List.mem_of_getElem? (i := 117) rfl)
theorem rM306_98 {R : PF} (h : Shp R) : R 306 98 = 374 := h.1 (306, 98, 374) (List.mem_of_getElem? (i := 118) rfl)
theorem rM306_99 {R : PF} (h : Shp R) : R 306 99 = 375 := h.1 (306, 99, 375) (List.mem_of_getElem? (i := 119) rfl)
theorem rM306_100 {R : PF} (h : Shp R) : R 306 100 = 376 := h.1 (306, 100, 376) (List.mem_of_getElem? (i := 120) rfl)
theorem rM306_101 {R : PF} (h : Shp R) : R 306 101 = 377 := h.1 (306, 101, 377) (List.mem_of_getElem? (i := 121) rfl)
theorem rM306_102 {R : PF} (h : Shp R) : R 306 102 = 378 := h.1 (306, 102, 378) (List.mem_of_getElem? (i := 122) rfl)
theorem rM306_103 {R : PF} (h : Shp R) : R 306 103 = 379 := h.1 (306, 103, 379) (List.mem_of_getElem? (i := 123) rfl)
theorem rM306_105 {R : PF} (h : Shp R) : R 306 105 = 380 := h.1 (306, 105, 380) (List.mem_of_getElem? (i := 124) rfl)
theorem rM306_109 {R : PF} (h : Shp R) : R 306 109 = 381 := h.1 (306, 109, 381) (List.mem_of_getElem? (i := 125) rfl)
theorem rM306_113 {R : PF} (h : Shp R) : R 306 113 = 382 := h.1 (306, 113, 382) (List.mem_of_getElem? (i := 126) rfl)
theorem kd_at {M : PM} {k c n : Nat} (h : M[k]? = some (c, n)) : kd M (64 + (k : Int)) = c ∧ ln M (64 + (k : Int)) = n := by
  unfold kd ln
  rw [if_neg (by omega), if_neg (by omega), show (64 + (k : Int) - 64).toNat = k by omega, h]
  exact ⟨rfl, rfl⟩
/-- cells that stand behind one of a kind -/
theorem beh {c j c2 n2 : Nat} (hc : c < 20) (h : (List.range MF.length).all (fun k => match MF[k]? with | some q => q.1 != c || MF[k + j]? == some (c2, n2) | none => true) = true) {o : Int} (ho : kd MF o = c) : kd MF (o + j) = c2 ∧ (ln MF (o + j) : Int) = n2 := by
  obtain ⟨k, rfl, hk, hM⟩ := kd_in ho hc
  have h1 := List.all_eq_true.mp h k (List.mem_range.mpr hk)
  rw [hM] at h1
  simp only [bne_self_eq_false, Bool.false_or, beq_iff_eq] at h1
  have h2 := kd_at h1
  rw [show (64 : Int) + (k : Int) + (j : Int) = 64 + ((k + j : Nat) : Int) by omega]
  exact ⟨h2.1, by rw [h2.2]⟩
theorem st1 {o : Int} (h : kd MF o = 8) : kd MF (o + 1) = 15 := (beh (j := 1) (c2 := 15) (n2 := 6) (by decide) (by decide +kernel) h).1
theorem st1n {o : Int} (h : kd MF o = 8) : (ln MF (o + 1) : Int) = 6 := (beh (j := 1) (c2 := 15) (n2 := 6) (by decide) (by decide +kernel) h).2
theorem fo1 {o : Int} (h : kd MF o = 2) : kd MF (o + 1) = 12 := (beh (j := 1) (c2 := 12) (n2 := 1600) (by decide) (by decide +kernel) h).1
theorem fo1n {o : Int} (h : kd MF o = 2) : (ln MF (o + 1) : Int) = 1600 := (beh (j := 1) (c2 := 12) (n2 := 1600) (by decide) (by decide +kernel) h).2
theorem fo2 {o : Int} (h : kd MF o = 2) : kd MF (o + 2) = 12 := (beh (j := 2) (c2 := 12) (n2 := 64) (by decide) (by decide +kernel) h).1
theorem fo2n {o : Int} (h : kd MF o = 2) : (ln MF (o + 2) : Int) = 64 := (beh (j := 2) (c2 := 12) (n2 := 64) (by decide) (by decide +kernel) h).2
theorem sq1 {o : Int} (h : kd MF o = 6) : kd MF (o + 1) = 12 := (beh (j := 1) (c2 := 12) (n2 := 6) (by decide) (by decide +kernel) h).1
theorem sq1n {o : Int} (h : kd MF o = 6) : (ln MF (o + 1) : Int) = 6 := (beh (j := 1) (c2 := 12) (n2 := 6) (by decide) (by decide +kernel) h).2
theorem sq2 {o : Int} (h : kd MF o = 6) : kd MF (o + 2) = 12 := (beh (j := 2) (c2 := 12) (n2 := 6) (by decide) (by decide +kernel) h).1
theorem sq2n {o : Int} (h : kd MF o = 6) : (ln MF (o + 2) : Int) = 6 := (beh (j := 2) (c2 := 12) (n2 := 6) (by decide) (by decide +kernel) h).2
theorem sq3 {o : Int} (h : kd MF o = 6) : kd MF (o + 3) = 12 := (beh (j := 3) (c2 := 12) (n2 := 81) (by decide) (by decide +kernel) h).1
theorem sq3n {o : Int} (h : kd MF o = 6) : (ln MF (o + 3) : Int) = 81 := (beh (j := 3) (c2 := 12) (n2 := 81) (by decide) (by decide +kernel) h).2
theorem sq4 {o : Int} (h : kd MF o = 6) : kd MF (o + 4) = 12 := (beh (j := 4) (c2 := 12) (n2 := 33) (by decide) (by decide +kernel) h).1
theorem sq4n {o : Int} (h : kd MF o = 6) : (ln MF (o + 4) : Int) = 33 := (beh (j := 4) (c2 := 12) (n2 := 33) (by decide) (by decide +kernel) h).2
theorem sq5 {o : Int} (h : kd MF o = 6) : kd MF (o + 5) = 2 := (beh (j := 5) (c2 := 2) (n2 := 3) (by decide) (by decide +kernel) h).1
theorem sq8 {o : Int} (h : kd MF o = 6) : kd MF (o + 8) = 2 := (beh (j := 8) (c2 := 2) (n2 := 3) (by decide) (by decide +kernel) h).1
theorem sq11 {o : Int} (h : kd MF o = 6) : kd MF (o + 11) = 8 := (beh (j := 11) (c2 := 8) (n2 := 5) (by decide) (by decide +kernel) h).1
theorem stR {o p : Int} (h : kd MF o = 8) (h0 : 0 ≤ p) (h6 : p < 6) : kd MF (o + 2 + p) = 12 ∧ (ln MF (o + 2 + p) : Int) = 8 := by
  have hp : p = 0 ∨ p = 1 ∨ p = 2 ∨ p = 3 ∨ p = 4 ∨ p = 5 := by omega
  have b2 := beh (j := 2) (c2 := 12) (n2 := 8) (by decide) (by decide +kernel) h
  have b3 := beh (j := 3) (c2 := 12) (n2 := 8) (by decide) (by decide +kernel) h
  have b4 := beh (j := 4) (c2 := 12) (n2 := 8) (by decide) (by decide +kernel) h
  have b5 := beh (j := 5) (c2 := 12) (n2 := 8) (by decide) (by decide +kernel) h
  have b6 := beh (j := 6) (c2 := 12) (n2 := 8) (by decide) (by decide +kernel) h
  have b7 := beh (j := 7) (c2 := 12) (n2 := 8) (by decide) (by decide +kernel) h
  rcases hp with rfl | rfl | rfl | rfl | rfl | rfl
  · rw [show o + 2 + 0 = o + ((2 : Nat) : Int) by omega]; exact b2
  · rw [show o + 2 + 1 = o + ((3 : Nat) : Int) by omega]; exact b3
  · rw [show o + 2 + 2 = o + ((4 : Nat) : Int) by omega]; exact b4
  · rw [show o + 2 + 3 = o + ((5 : Nat) : Int) by omega]; exact b5
  · rw [show o + 2 + 4 = o + ((6 : Nat) : Int) by omega]; exact b6
  · rw [show o + 2 + 5 = o + ((7 : Nat) : Int) by omega]; exact b7
theorem sh8_4 {R : PF} (hs : Shp R) {o : Int} (h : kd MF o = 8) : R o 4 = o + 1 := (hs.2.1 o h).1
theorem sh8_r {R : PF} (hs : Shp R) {o p : Int} (h : kd MF o = 8) (h0 : 0 ≤ p) (h6 : p < 6) : R (o + 1) p = o + 2 + p := (hs.2.1 o h).2 p h0 h6
theorem sh2_0 {R : PF} (hs : Shp R) {o : Int} (h : kd MF o = 2) : R o 0 = o + 1 := (hs.2.2.1 o h).1
theorem sh2_1 {R : PF} (hs : Shp R) {o : Int} (h : kd MF o = 2) : R o 1 = o + 2 := (hs.2.2.1 o h).2
theorem sh6_8 {R : PF} (hs : Shp R) {o : Int} (h : kd MF o = 6) : R o 8 = o + 1 := (hs.2.2.2 o h).1
theorem sh6_9 {R : PF} (hs : Shp R) {o : Int} (h : kd MF o = 6) : R o 9 = o + 2 := (hs.2.2.2 o h).2.1
theorem sh6_10 {R : PF} (hs : Shp R) {o : Int} (h : kd MF o = 6) : R o 10 = o + 3 := (hs.2.2.2 o h).2.2.1
theorem sh6_11 {R : PF} (hs : Shp R) {o : Int} (h : kd MF o = 6) : R o 11 = o + 4 := (hs.2.2.2 o h).2.2.2.1
theorem sh6_12 {R : PF} (hs : Shp R) {o : Int} (h : kd MF o = 6) : R o 12 = o + 5 := (hs.2.2.2 o h).2.2.2.2.1
theorem sh6_13 {R : PF} (hs : Shp R) {o : Int} (h : kd MF o = 6) : R o 13 = o + 8 := (hs.2.2.2 o h).2.2.2.2.2.1
theorem sh6_14 {R : PF} (hs : Shp R) {o : Int} (h : kd MF o = 6) : R o 14 = o + 11 := (hs.2.2.2 o h).2.2.2.2.2.2
