section
/-! THE CLASS'S SKY: ripe or not; a message is posted -/
section
variable {N g H T q : Nat} {s : cS} {fl : List Fl} {ld t : Nat → Nat}
theorem isRipe_c {d tm : Nat} (h : cSkT s q fl ld t) (ht : cI s 10 q = nI tm) (hd : d < 1000) (htm : tm < 1000000) (hs : ∀ k, k < fl.length → (fg fl k).2.2.1 < 1000000) : p_X9_isRipe N g H T s q (nI d) ∧ k_X9_isRipe N g H T s q (nI d) = nI (if 0 < fl.length ∧ (fg fl 0).2.2.1 + d ≤ tm then 1 else 0) := by
  obtain ⟨s1, s2⟩ := slot_c (N := N) (g := g) (H := H) (T := T) (x := nI 0) h
  obtain ⟨h1, h2, h3, h4, h5, h6, h7⟩ := h
  show wp (KO_X9_isRipe_0 N g H T q (nI d) s) (KF_X9_isRipe_0 N g H T q (nI d) s) (fun v => v = nI (if 0 < fl.length ∧ (fg fl 0).2.2.1 + d ≤ tm then 1 else 0))
  unfold KO_X9_isRipe_0 KF_X9_isRipe_0
  refine wp_and s1 ?_
  rcases s2 with ⟨k, k1, k2, k3⟩ | ⟨k1, k2⟩
  · have k0 : k = 0 := by
      rw [n_eq' (by omega) (by omega)] at k2
      omega
    subst k0
    have tk := h5 0 (by omega)
    have b := hs 0 k1
    rw [k3, n_clamp (by omega), (h7 0 k1).2.2.1, ht, n_add]
    refine wp_neg (n_lt0 (by omega)) (wp_and ((n_in (by omega)).2 (by omega)) (wp_ite (fun c => ?_) (fun c => ?_))) <;> rw [n_lt' (by omega) (by omega)] at c
    · unfold KO_X9_isRipe_29 KF_X9_isRipe_29 KO_X9_isRipe_30 KF_X9_isRipe_30
      rw [if_neg (by omega)]
      exact wp_fin rfl rfl
    · unfold KO_X9_isRipe_30 KF_X9_isRipe_30
      rw [if_pos (show 0 < fl.length ∧ (fg fl 0).2.2.1 + d ≤ tm from ⟨k1, by omega⟩)]
      exact wp_fin rfl rfl
  · rw [k2]
    have z : ¬ 0 < fl.length := fun z => k1 ⟨0, z, rfl⟩
    refine wp_pos (by decide) ?_
    unfold KO_X9_isRipe_29 KF_X9_isRipe_29 KO_X9_isRipe_30 KF_X9_isRipe_30
    rw [if_neg (fun y => z y.1)]
    exact wp_fin rfl rfl
end
end
