section
/-! THE CLASS'S SKY: a message is posted -/
/-- what flies, and the counts of what was sent and lost -/
def cSk (s : cS) (q : Nat) (k : Sk) (ld : Nat → Nat) : Prop := (∃ t, cSkT s q k.1 ld t) ∧ cI s 11 q = iI k.2.1 ∧ cI s 12 q = iI k.2.2
section
variable {N g H T q : Nat} {s : cS} {fl : List Fl} {ld t : Nat → Nat}
theorem cSkT.I {k a : Nat} {v : Int32} (h : cSkT s q fl ld t) (hk : (k ≠ 6 ∧ k ≠ 9) ∨ a ≠ q) : cSkT (csI s k a v) q fl ld t := by
  have e : ∀ j, j = 6 ∨ j = 9 → cI (csI s k a v) j q = cI s j q := fun j hj => cI_other _ _ (by omega)
  unfold cSkT
  rw [e 6 (Or.inl rfl), e 9 (Or.inr rfl)]
  exact h
theorem post_sk {m a b tm : Nat} {y : List Nat} {k : Sk} (h : cSk s q k ld) (hm : m ≠ q) (ht : cI s 10 q = nI tm) : p_X9_post N g H T s q (nI a) (nI b) (some m) ∧ cSk (k_X9_post N g H T s q (nI a) (nI b) (some m)) q (pst k (a, b, tm, y)) (fun j => if j = k.1.length ∧ k.1.length < 1000 then m else ld j) := by
  obtain ⟨⟨t, h1⟩, h2, h3⟩ := h
  have h9 := h1.1
  have hl := h1.2.1
  have a1 : cSkT (csI s 11 q (cI s 11 q + nI 1)) q k.1 ld t := h1.I (Or.inl (by decide))
  have e9 : cI (csI s 11 q (cI s 11 q + nI 1)) 9 q = nI k.1.length := by rw [cI_other _ _ (Or.inl (by decide))]; exact h9
  have e10 : cI (csI s 11 q (cI s 11 q + nI 1)) 10 q = nI tm := by rw [cI_other _ _ (Or.inl (by decide))]; exact ht
  have e11 : cI (csI s 11 q (cI s 11 q + nI 1)) 11 q = iI (k.2.1 + 1) := by
    rw [cI_same, h2, ← iI_n, iI_add]
    rfl
  have e12 : cI (csI s 11 q (cI s 11 q + nI 1)) 12 q = iI k.2.2 := by rw [cI_other _ _ (Or.inl (by decide))]; exact h3
  show wp (KO_X9_post_0 N g H T q (nI a) (nI b) (some m) s) (KF_X9_post_0 N g H T q (nI a) (nI b) (some m) s) (fun z => cSk z q (pst k (a, b, tm, y)) (fun j => if j = k.1.length ∧ k.1.length < 1000 then m else ld j))
  unfold KO_X9_post_0 KF_X9_post_0
  generalize csI s 11 q (cI s 11 q + nI 1) = s1 at a1 e9 e10 e11 e12 ⊢
  rw [e9]
  refine wp_ite (fun c => ?_) (fun c => ?_) <;> rw [n_le' (by omega) (by omega)] at c
  · unfold KO_X9_post_40 KF_X9_post_40
    refine wp_fin trivial ?_
    have ep : pst k (a, b, tm, y) = (k.1, k.2.1 + 1, k.2.2 + 1) := by
      unfold pst
      rw [if_neg (by omega)]
    rw [ep]
    have el : (fun j => if j = k.1.length ∧ k.1.length < 1000 then m else ld j) = ld := funext fun j => by rw [if_neg (by omega)]
    rw [el]
    refine ⟨⟨t, a1.I (Or.inl (by decide))⟩, ?_, ?_⟩
    · rw [cI_other _ _ (Or.inl (by decide))]; exact e11
    · rw [cI_same, e12, ← iI_n, iI_add]
      rfl
  · have hl' : k.1.length < 1000 := by omega
    obtain ⟨p1, f, f1, f2, e⟩ := launch_c (N := N) (g := g) (H := H) (T := T) (a := nI a) (b := nI b) a1 hl' hm
    have sk := launch_sk (N := N) (g := g) (H := H) (T := T) (a := a) (b := b) (y := y) a1 hl' hm e10
    refine wp_and p1 ?_
    unfold KO_X9_post_27 KF_X9_post_27 KO_X9_post_40 KF_X9_post_40
    refine wp_fin trivial ?_
    have ep : pst k (a, b, tm, y) = (k.1 ++ [(a, b, tm, y)], k.2.1 + 1, k.2.2) := by
      unfold pst
      rw [if_pos hl']
    rw [ep]
    have el : (fun j => if j = k.1.length ∧ k.1.length < 1000 then m else ld j) = (fun j => if j = k.1.length then m else ld j) := funext fun j => by
      by_cases z : j = k.1.length
      · rw [if_pos ⟨z, hl'⟩, if_pos z]
      · rw [if_neg (fun x => z x.1), if_neg z]
    rw [el]
    have i : ∀ j, j = 11 ∨ j = 12 → cI (cLau s1 q ((f + k.1.length) % 1024) (t k.1.length) m k.1.length (nI a) (nI b)) j q = cI s1 j q := fun j hj => by
      unfold cLau
      rw [cI_other _ _ (Or.inr (Ne.symm hm))]
      show cI (csI (csA s1 (q + 1) ((f + k.1.length) % 1024) (nI (t k.1.length))) 9 q (nI (k.1.length + 1))) j q = _
      rw [cI_other _ _ (Or.inl (by omega))]
      rfl
    refine ⟨⟨t, sk⟩, ?_, ?_⟩
    · rw [e, i 11 (Or.inl rfl)]; exact e11
    · rw [e, i 12 (Or.inr rfl)]; exact e12
end
end
