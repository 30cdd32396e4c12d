section
/-! THE CLASS'S SKY: a ring of slots -/
theorem n_1023 (a : Nat) : nI a &&& nI 1023 = nI (a % 1024) := by
  apply Int32.toBitVec_inj.mp
  apply BitVec.eq_of_toNat_eq
  unfold nI
  simp only [Int32.toBitVec_and, Int32.toBitVec_ofNat', BitVec.toNat_and, BitVec.toNat_ofNat]
  rw [show 1023 % 2 ^ 32 = 2 ^ 10 - 1 by decide, Nat.and_two_pow_sub_one_eq_mod]
  omega
/-- what flies, told by the sky at q: t the slots, ld the messages' addresses -/
def cSkT (s : cS) (q : Nat) (fl : List Fl) (ld t : Nat → Nat) : Prop := cI s 9 q = nI fl.length ∧ fl.length ≤ 1000 ∧ (∃ f, f < 1024 ∧ cI s 6 q = nI f ∧ ∀ k, k < fl.length → cA s (q + 1) ((f + k) % 1024) = nI (t k)) ∧ (∀ j, fl.length ≤ j → j < 1000 → cA s (q + 2) j = nI (t j)) ∧ (∀ j, j < 1000 → t j < 1000) ∧ (∀ i j, i < 1000 → j < 1000 → t i = t j → i = j) ∧ ∀ k, k < fl.length → cA s (q + 3) (t k) = nI (fg fl k).1 ∧ cA s (q + 4) (t k) = nI (fg fl k).2.1 ∧ cA s (q + 5) (t k) = nI (fg fl k).2.2.1 ∧ cP s (q + 6) (t k) = some (ld k)
section
variable {N g H T q : Nat} {s : cS} {fl : List Fl} {ld t : Nat → Nat}
theorem slot_c {x : Int32} (h : cSkT s q fl ld t) : p_X9_slot N g H T s q x ∧ ((∃ k, k < fl.length ∧ x = nI k ∧ k_X9_slot N g H T s q x = nI (t k)) ∨ ((¬ ∃ k, k < fl.length ∧ x = nI k) ∧ k_X9_slot N g H T s q x = -1)) := by
  obtain ⟨h1, h2, ⟨f, f1, f2, f3⟩, h4, h5, h6, h7⟩ := h
  show wp (KO_X9_slot_0 N g H T q x s) (KF_X9_slot_0 N g H T q x s) (fun v => (∃ k, k < fl.length ∧ x = nI k ∧ v = nI (t k)) ∨ ((¬ ∃ k, k < fl.length ∧ x = nI k) ∧ v = -1))
  unfold KO_X9_slot_0 KF_X9_slot_0
  have no : (¬ ∃ k, k < fl.length ∧ x = nI k) → wp (KO_X9_slot_30 N g H T s) (KF_X9_slot_30 N g H T s) (fun v => (∃ k, k < fl.length ∧ x = nI k ∧ v = nI (t k)) ∨ ((¬ ∃ k, k < fl.length ∧ x = nI k) ∧ v = -1)) := fun z => by
    unfold KO_X9_slot_30 KF_X9_slot_30 KO_X9_slot_31 KF_X9_slot_31
    exact wp_fin trivial (Or.inr ⟨z, rfl⟩)
  refine wp_ite (fun c => ?_) (fun c => ?_)
  · exact no (fun ⟨k, k1, k2⟩ => n_lt0 (show k < 2147483648 by omega) (by rw [← k2]; exact c))
  obtain ⟨k, k1, k2⟩ := i_nat c
  have e : cI s 9 q ≤ x ↔ fl.length ≤ k := by rw [h1, k2, n_le' (by omega) k1]
  refine wp_ite (fun d => ?_) (fun d => ?_) <;> rw [e] at d
  · exact no (fun ⟨j, j1, j2⟩ => by rw [k2, n_eq' k1 (by omega)] at j2; omega)
  rw [f2, k2, n_add, n_1023, n_clamp (by omega), f3 k (by omega)]
  refine wp_and ((n_in (by omega)).2 (by omega)) ?_
  unfold KO_X9_slot_31 KF_X9_slot_31
  exact wp_fin trivial (Or.inl ⟨k, (by omega), rfl, rfl⟩)
theorem loadOf_c {x : Int32} (h : cSkT s q fl ld t) : p_X9_loadOf N g H T s q x ∧ ((∃ k, k < fl.length ∧ x = nI k ∧ k_X9_loadOf N g H T s q x = some (ld k)) ∨ ((¬ ∃ k, k < fl.length ∧ x = nI k) ∧ k_X9_loadOf N g H T s q x = none)) := by
  obtain ⟨s1, s2⟩ := slot_c (N := N) (g := g) (H := H) (T := T) (x := x) h
  obtain ⟨h1, h2, h3, h4, h5, h6, h7⟩ := h
  show wp (KO_X9_loadOf_0 N g H T q x s) (KF_X9_loadOf_0 N g H T q x s) (fun v => (∃ k, k < fl.length ∧ x = nI k ∧ v = some (ld k)) ∨ ((¬ ∃ k, k < fl.length ∧ x = nI k) ∧ v = none))
  unfold KO_X9_loadOf_0 KF_X9_loadOf_0
  refine wp_and s1 ?_
  rcases s2 with ⟨k, k1, k2, k3⟩ | ⟨k1, k2⟩
  · have tk := h5 k (by omega)
    rw [k3, n_clamp (by omega), (h7 k k1).2.2.2]
    refine wp_pos (by rw [show (0 : Int32) = nI 0 from rfl, n_le' (by omega) (by omega)]; omega) (wp_and ((n_in (by omega)).2 (by omega)) ?_)
    unfold KO_X9_loadOf_20 KF_X9_loadOf_20
    exact wp_fin trivial (Or.inl ⟨k, k1, k2, rfl⟩)
  · rw [k2]
    refine wp_neg (by decide) ?_
    unfold KO_X9_loadOf_20 KF_X9_loadOf_20
    exact wp_fin trivial (Or.inr ⟨k1, rfl⟩)
theorem senderOf_c {x : Int32} (h : cSkT s q fl ld t) : p_X9_senderOf N g H T s q x ∧ ((∃ k, k < fl.length ∧ x = nI k ∧ k_X9_senderOf N g H T s q x = nI (fg fl k).1) ∨ ((¬ ∃ k, k < fl.length ∧ x = nI k) ∧ k_X9_senderOf N g H T s q x = -1)) := by
  obtain ⟨s1, s2⟩ := slot_c (N := N) (g := g) (H := H) (T := T) (x := x) h
  obtain ⟨h1, h2, h3, h4, h5, h6, h7⟩ := h
  show wp (KO_X9_senderOf_0 N g H T q x s) (KF_X9_senderOf_0 N g H T q x s) (fun v => (∃ k, k < fl.length ∧ x = nI k ∧ v = nI (fg fl k).1) ∨ ((¬ ∃ k, k < fl.length ∧ x = nI k) ∧ v = -1))
  unfold KO_X9_senderOf_0 KF_X9_senderOf_0
  refine wp_and s1 ?_
  rcases s2 with ⟨k, k1, k2, k3⟩ | ⟨k1, k2⟩
  · have tk := h5 k (by omega)
    rw [k3, n_clamp (by omega), (h7 k k1).1]
    refine wp_pos (by rw [show (0 : Int32) = nI 0 from rfl, n_le' (by omega) (by omega)]; omega) (wp_and ((n_in (by omega)).2 (by omega)) ?_)
    unfold KO_X9_senderOf_20 KF_X9_senderOf_20
    exact wp_fin trivial (Or.inl ⟨k, k1, k2, rfl⟩)
  · rw [k2]
    refine wp_neg (by decide) ?_
    unfold KO_X9_senderOf_20 KF_X9_senderOf_20
    exact wp_fin trivial (Or.inr ⟨k1, rfl⟩)
theorem receiverOf_c {x : Int32} (h : cSkT s q fl ld t) : p_X9_receiverOf N g H T s q x ∧ ((∃ k, k < fl.length ∧ x = nI k ∧ k_X9_receiverOf N g H T s q x = nI (fg fl k).2.1) ∨ ((¬ ∃ k, k < fl.length ∧ x = nI k) ∧ k_X9_receiverOf N g H T s q x = -1)) := by
  obtain ⟨s1, s2⟩ := slot_c (N := N) (g := g) (H := H) (T := T) (x := x) h
  obtain ⟨h1, h2, h3, h4, h5, h6, h7⟩ := h
  show wp (KO_X9_receiverOf_0 N g H T q x s) (KF_X9_receiverOf_0 N g H T q x s) (fun v => (∃ k, k < fl.length ∧ x = nI k ∧ v = nI (fg fl k).2.1) ∨ ((¬ ∃ k, k < fl.length ∧ x = nI k) ∧ v = -1))
  unfold KO_X9_receiverOf_0 KF_X9_receiverOf_0
  refine wp_and s1 ?_
  rcases s2 with ⟨k, k1, k2, k3⟩ | ⟨k1, k2⟩
  · have tk := h5 k (by omega)
    rw [k3, n_clamp (by omega), (h7 k k1).2.1]
    refine wp_pos (by rw [show (0 : Int32) = nI 0 from rfl, n_le' (by omega) (by omega)]; omega) (wp_and ((n_in (by omega)).2 (by omega)) ?_)
    unfold KO_X9_receiverOf_20 KF_X9_receiverOf_20
    exact wp_fin trivial (Or.inl ⟨k, k1, k2, rfl⟩)
  · rw [k2]
    refine wp_neg (by decide) ?_
    unfold KO_X9_receiverOf_20 KF_X9_receiverOf_20
    exact wp_fin trivial (Or.inr ⟨k1, rfl⟩)
theorem hasRoom_c (h : cSkT s q fl ld t) : p_X9_hasRoom N g H T s q ∧ k_X9_hasRoom N g H T s q = nI (if fl.length < 1000 then 1 else 0) := by
  obtain ⟨h1, h2, h3, h4, h5, h6, h7⟩ := h
  show wp (KO_X9_hasRoom_0 N g H T q s) (KF_X9_hasRoom_0 N g H T q s) (fun v => v = nI (if fl.length < 1000 then 1 else 0))
  unfold KO_X9_hasRoom_0 KF_X9_hasRoom_0
  rw [h1]
  refine wp_ite (fun c => ?_) (fun c => ?_) <;> rw [n_le' (by omega) (by omega)] at c
  · unfold KO_X9_hasRoom_15 KF_X9_hasRoom_15
    rw [if_neg (by omega)]
    exact wp_fin rfl rfl
  · unfold KO_X9_hasRoom_15 KF_X9_hasRoom_15
    rw [if_pos (by omega)]
    exact wp_fin rfl rfl
end
end
