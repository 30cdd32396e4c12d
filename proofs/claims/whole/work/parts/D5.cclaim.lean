section
/-! THE CLAIM -/
theorem lw_pure : lw_Pure := ⟨12000, fun g => ⟨RelQ g, RQ_whole (Nat.le_refl _)⟩⟩
theorem i_vc : Claimed_1_1 ∧ Claimed_1_2 := lw_vc lw_pure
end
