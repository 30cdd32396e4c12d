/-! a number that is none of 0 .. n - 1 lies outside a table -/
theorem zsw {x : Int32} {hi : Int} (n : Nat) (h : ∀ k, k < n → ¬ x = nI k) (hn : n < 2 ^ 31) (hh : hi = (n : Int) - 1) : x.toInt < 0 ∨ hi < x.toInt := by
  by_cases h0 : x < 0
  · left
    simpa using Int32.lt_iff_toInt_lt.mp h0
  · right
    obtain ⟨j, hj, rfl⟩ := nI_of h0
    rw [nI_toInt hj, hh]
    rcases Nat.lt_or_ge j n with z | z
    · exact absurd rfl (h j z)
    · omega
