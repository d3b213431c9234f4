/-! ===== calls of constructors ===== -/
theorem kd_new {M : PM} {c n : Nat} : kd (M ++ [(c, n)]) (64 + (M.length : Int)) = c := by
  unfold kd
  rw [if_neg (by omega), show (64 + (M.length : Int) - 64).toNat = M.length by omega, List.getElem?_append_right (Nat.le_refl _), Nat.sub_self]
  rfl
theorem oX5_init : COI mX5_init 1 := ⟨⟨⟨by decide +kernel, by decide +kernel, by decide +kernel⟩, by decide, tGp1 30 rfl rfl, tGp1 2 rfl rfl⟩, rfl, tGp1 29 rfl rfl, rfl⟩
theorem oX2_init : COI mX2_init 0 := ⟨⟨⟨by decide +kernel, by decide +kernel, by decide +kernel⟩, by decide, tGp1 76 rfl rfl, tGp1 5 rfl rfl⟩, rfl, tGp1 75 rfl rfl, rfl⟩
theorem oX3_init : COI mX3_init 2 := ⟨⟨⟨by decide +kernel, by decide +kernel, by decide +kernel⟩, by decide, tGp1 92 rfl rfl, tGp1 6 rfl rfl⟩, rfl, tGp1 91 rfl rfl, rfl⟩
theorem oX6_init : COI mX6_init 0 := ⟨⟨⟨by decide +kernel, by decide +kernel, by decide +kernel⟩, by decide, tGp1 111 rfl rfl, tGp1 7 rfl rfl⟩, rfl, tGp1 110 rfl rfl, rfl⟩
theorem oX7_init : COI mX7_init 3 := ⟨⟨⟨by decide +kernel, by decide +kernel, by decide +kernel⟩, by decide, tGp1 228 rfl rfl, tGp1 9 rfl rfl⟩, rfl, tGp1 227 rfl rfl, rfl⟩
theorem oX8_init : COI mX8_init 0 := ⟨⟨⟨by decide +kernel, by decide +kernel, by decide +kernel⟩, by decide, tGp1 119 rfl rfl, tGp1 8 rfl rfl⟩, rfl, tGp1 118 rfl rfl, rfl⟩
theorem oX1_init : COI mX1_init 2 := ⟨⟨⟨by decide +kernel, by decide +kernel, by decide +kernel⟩, by decide, tGp2 6 rfl rfl, tGp1 10 rfl rfl⟩, rfl, tGp2 5 rfl rfl, rfl⟩
theorem oX4_init : COI mX4_init 0 := ⟨⟨⟨by decide +kernel, by decide +kernel, by decide +kernel⟩, by decide, tGp2 65 rfl rfl, tGp1 11 rfl rfl⟩, rfl, tGp2 64 rfl rfl, rfl⟩
theorem oX0_init : COI mX0_init 0 := ⟨⟨⟨by decide +kernel, by decide +kernel, by decide +kernel⟩, by decide, tGp2 95 rfl rfl, tGp1 12 rfl rfl⟩, rfl, tGp2 94 rfl rfl, rfl⟩
theorem oX10_init : COI mX10_init 0 := ⟨⟨⟨by decide +kernel, by decide +kernel, by decide +kernel⟩, by decide, tGp1 22 rfl rfl, tGp1 1 rfl rfl⟩, rfl, tGp1 21 rfl rfl, rfl⟩
theorem oX11_init : COI mX11_init 0 := ⟨⟨⟨by decide +kernel, by decide +kernel, by decide +kernel⟩, by decide, tGp6 120 rfl rfl, tGp1 13 rfl rfl⟩, rfl, tGp6 119 rfl rfl, rfl⟩
theorem kX10_28 : Cond.methodLink RX10 28 mX5_init.1 ∈ tG := tGp1 28 rfl rfl
theorem kX10_37 : ∃ host, Cond.methodLinkNest RX10 37 mX2_init.1 host ∈ tN := ⟨_, tNp1 74 rfl rfl⟩
theorem kX10_44 : Cond.methodLink RX10 44 mX3_init.1 ∈ tG := tGp1 90 rfl rfl
theorem kX10_53 : ∃ host, Cond.methodLinkNest RX10 53 mX6_init.1 host ∈ tN := ⟨_, tNp1 109 rfl rfl⟩
theorem kX10_63 : Cond.methodLink RX10 63 mX7_init.1 ∈ tG := tGp1 226 rfl rfl
theorem kX10_72 : ∃ host, Cond.methodLinkNest RX10 72 mX8_init.1 host ∈ tN := ⟨_, tNp2 1 rfl rfl⟩
theorem kX10_82 : Cond.methodLink RX10 82 mX1_init.1 ∈ tG := tGp2 4 rfl rfl
theorem kX10_91 : Cond.methodLink RX10 91 mX4_init.1 ∈ tG := tGp2 63 rfl rfl
theorem kX10_98 : ∃ host, Cond.methodLinkNest RX10 98 mX0_init.1 host ∈ tN := ⟨_, tNp2 93 rfl rfl⟩
theorem kX6_51 : ∃ host, Cond.methodLinkNest RX6 51 mX2_init.1 host ∈ tN := ⟨_, tNp1 114 rfl rfl⟩
theorem kX6_61 : ∃ host, Cond.methodLinkNest RX6 61 mX8_init.1 host ∈ tN := ⟨_, tNp1 117 rfl rfl⟩
theorem kX4_36 : ∃ host, Cond.methodLinkNest RX4 36 mX8_init.1 host ∈ tN := ⟨_, tNp2 70 rfl rfl⟩
theorem kL_9 : Cond.methodLink "NoonHatLaw" 9 mX10_init.1 ∈ tG := tGp1 20 rfl rfl
theorem kL_12 : Cond.methodLink "NoonHatLaw" 12 mX11_init.1 ∈ tG := tGp6 118 rfl rfl
