section
/-! THE CLASS'S HEAP: a message is dropped -/
/-- where the free rows of a size begin: field 7 or 8 of the sky -/
def frF (s : cS) (a : Nat) : Nat := if cL s (a + 2) = 128 then 7 else 8
/-- the state after a drop of a message that u use -/
def cDrp (s : cS) (q a u : Nat) : cS := if u = 1 then csR (csR (csI s 3 a (nI 0)) 6 a (cR s (frF s a) q)) (frF s a) q (some a) else csI s 3 a (nI (u - 1))
section
variable {N g H T q : Nat} {s : cS}
theorem drop_c {a u : Nat} (hu : cI s 3 a = nI u) (h1 : 1 ≤ u) (h2 : u < 1000000) (hl : cL s (a + 2) < 1000000) : p_X9_drop N g H T s q (some a) ∧ k_X9_drop N g H T s q (some a) = cDrp s q a u := by
  show wp (KO_X9_drop_0 N g H T q (some a) s) (KF_X9_drop_0 N g H T q (some a) s) (fun z => z = cDrp s q a u)
  unfold KO_X9_drop_0 KF_X9_drop_0 cDrp
  have za' : za (some a) = a := rfl
  rw [za', cI_same, hu, n_sub h1]
  have eL : ∀ v : Int32, cL (csI s 3 a v) (a + 2) = cL s (a + 2) := fun _ => rfl
  have eR : ∀ (v : Int32) (k : Nat), cR (csI s 3 a v) k q = cR s k q := fun _ _ => rfl
  rw [eL, eR, eR]
  refine wp_neg (by simp) (wp_ite (fun c => ?_) (fun c => ?_)) <;> rw [n_le0 (by omega)] at c
  · rw [if_pos (show u = 1 by omega), show u - 1 = 0 by omega]
    unfold frF
    refine wp_ite (fun d => ?_) (fun d => ?_) <;> rw [n_eq' (by omega) (by omega)] at d
    · unfold KO_X9_drop_42 KF_X9_drop_42 KO_X9_drop_63 KF_X9_drop_63
      rw [if_pos d]
      exact wp_fin trivial rfl
    · unfold KO_X9_drop_58 KF_X9_drop_58 KO_X9_drop_63 KF_X9_drop_63
      rw [if_neg d]
      exact wp_fin trivial rfl
  · rw [if_neg (show ¬ u = 1 by omega)]
    exact wp_fin trivial rfl
end
end
