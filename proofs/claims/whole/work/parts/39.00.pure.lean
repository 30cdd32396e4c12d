theorem kpc_X9_fresh {u g H T N : Nat} {S : cS} {a0 : Nat} {x1 : Int32} (hS : St u g H T S) (t_x0 : isO g H 7 a0) (ok : p_X9_fresh N g H T S a0 x1) : St u g H T (k_X9_fresh N g H T S a0 x1).2 ∧ Mono S (k_X9_fresh N g H T S a0 x1).2 ∧ tK (k_X9_fresh N g H T S a0 x1).2 5 (k_X9_fresh N g H T S a0 x1).1 := by
  obtain ⟨h1, h2, h3, h4, h5, -⟩ := fresh_all (N := N) (x1 := x1) hS t_x0
  exact ⟨h3, h4, h5⟩
