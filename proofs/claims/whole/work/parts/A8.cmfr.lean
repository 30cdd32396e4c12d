section
/-! MESSAGES ARE WRITTEN: what else stays -/
/-- of the fixed rows and of the sectors nothing changes -/
def mfr (g H : Nat) (s s' : cS) : Prop := cn s ≤ cn s' ∧ (∀ a, a < cn s → cK s' a = cK s a ∧ cL s' a = cL s a) ∧ (∀ k a, a < nd g H → cI s' k a = cI s k a) ∧ (∀ k a, a < nd g H → (a ≠ g + 11 ∨ (k ≠ 7 ∧ k ≠ 8)) → cR s' k a = cR s k a) ∧ (∀ a, a < nd g H → cA s' a = cA s a ∧ cJ s' a = cJ s a ∧ cP s' a = cP s a) ∧ ∀ r, nd g H ≤ r → r < cn s → cK s r = 20 → cK s (r - 2) ≠ 5 → cA s' r = cA s r
section
variable {g H T : Nat} {s s' s1 s2 : cS} {ct ct' : Nat → List Nat} {hd hd' : List Nat} {a b : Nat}
theorem mfr.refl : mfr g H s s := ⟨Nat.le_refl _, fun _ _ => ⟨rfl, rfl⟩, fun _ _ _ => rfl, fun _ _ _ _ => rfl, fun _ _ => ⟨rfl, rfl, rfl⟩, fun _ _ _ _ _ => rfl⟩
theorem mfr.trans (h : mfr g H s s1) (h' : mfr g H s1 s2) : mfr g H s s2 := by
  obtain ⟨a1, a2, a3, a4, a5, a6⟩ := h
  obtain ⟨b1, b2, b3, b4, b5, b6⟩ := h'
  refine ⟨(by omega), fun a ha => ?_, fun k a ha => (b3 k a ha).trans (a3 k a ha), fun k a ha hk => (b4 k a ha hk).trans (a4 k a ha hk), fun a ha => ?_, fun r r1 r2 r3 r4 => ?_⟩
  · have x := a2 a ha
    have y := b2 a (by omega)
    exact ⟨y.1.trans x.1, y.2.trans x.2⟩
  · have x := a5 a ha
    have y := b5 a ha
    exact ⟨y.1.trans x.1, y.2.1.trans x.2.1, y.2.2.trans x.2.2⟩
  · exact (b6 r r1 (by omega) (by rw [(a2 r r2).1]; exact r3) (by rw [(a2 (r - 2) (by omega)).1]; exact r4)).trans (a6 r r1 r2 r3 r4)
theorem mfr_I {k : Nat} {v : Int32} (ha : nd g H ≤ a) : mfr g H s (csI s k a v) := ⟨Nat.le_refl _, fun _ _ => ⟨rfl, rfl⟩, fun _ _ h => cI_other _ _ (Or.inr (by omega)), fun _ _ _ _ => rfl, fun _ _ => ⟨rfl, rfl, rfl⟩, fun _ _ _ _ _ => rfl⟩
theorem mfr_R {k : Nat} {v : Option Nat} (ha : nd g H ≤ a ∨ (a = g + 11 ∧ (k = 7 ∨ k = 8))) : mfr g H s (csR s k a v) := ⟨Nat.le_refl _, fun _ _ => ⟨rfl, rfl⟩, fun _ _ _ => rfl, fun _ _ h1 h2 => cR_ne _ _ (by omega), fun _ _ => ⟨rfl, rfl, rfl⟩, fun _ _ _ _ _ => rfl⟩
theorem mfr_A {f : Nat → Int32} (ha : cK s a = 5) (h2 : nd g H ≤ a) : mfr g H s (csArow s (a + 2) f) := ⟨Nat.le_refl _, fun _ _ => ⟨rfl, rfl⟩, fun _ _ _ => rfl, fun _ _ _ _ => rfl, fun b hb => ⟨cA_other _ _ (by omega), rfl, rfl⟩, fun r r1 r2 r3 r4 => cA_other _ _ (fun z => r4 (by rw [z, show a + 2 - 2 = a by omega]; exact ha))⟩
theorem cfr.J {P : Nat → Prop} (h : cfr P s s') : cJ s' = cJ s := h.2.2.2.2.2.2.1
theorem mfr_J {f : Nat → Int64} (h2 : nd g H ≤ a) : mfr g H s (csJrow s a f) := ⟨Nat.le_refl _, fun _ _ => ⟨rfl, rfl⟩, fun _ _ _ => rfl, fun _ _ _ _ => rfl, fun b hb => ⟨rfl, cJ_other _ _ (by omega), rfl⟩, fun _ _ _ _ _ => rfl⟩
/-- a message that no place holds is written -/
theorem HP.wr {y : List Nat} (h : HP g H T s ct hd) (hc : cnA g H T s a = 0) (hK : cK s' = cK s) (hL : cL s' = cL s) (hR : cR s' = cR s) (hP : cP s' = cP s) (h3 : ∀ b, cI s' 3 b = cI s 3 b) (hO : ∀ b, b ≠ a → cK s b = 5 → (cI s' 2 b = cI s 2 b ∧ cI s' 4 b = cI s 4 b ∧ cI s' 5 b = cI s 5 b) ∧ cJ s' (b + 1) = cJ s (b + 1) ∧ cA s' (b + 2) = cA s (b + 2)) (hm : hM T s' a y) : HP g H T s' (fun b => if b = a then y else ct b) hd := by
  have p5 := h.2.2.2.2
  have hk := fun b (hb : 1 ≤ us g H T s hd b) => h.k hb
  have no : ∀ b, 1 ≤ cnA g H T s b → cI s' 4 b = cI s 4 b := fun b hb => (hO b (fun z => by rw [z] at hb; omega) (hk b (by unfold us; omega))).1.2.1
  refine h.fr (fun b => by rw [hK]) (fun b _ => by rw [hL]) (fun b _ => h3 b) (fun b _ => by rw [hR]) (fun k _ => by rw [hR]) (fun b => ?_) (fun b hb hb2 => ?_) ?_
  · unfold us
    rw [cnA_fr (s := s) (s' := s') (by rw [hP]) (fun _ _ _ _ => by rw [hP]) (fun _ _ _ _ => by rw [hR])]
  · by_cases c : b = a
    · show hM T s' b (if b = a then y else ct b)
      rw [if_pos c, c]
      exact hm
    · show hM T s' b (if b = a then y else ct b)
      rw [if_neg c]
      obtain ⟨⟨x1, x2, x3⟩, x4, x5⟩ := hO b c (hk b hb)
      exact hb2.fr (by rw [hK]) (by rw [hL]) x1 x2 x3 x4 x5
  · refine ⟨fun n e i b h1 h2 h3 h4 => ?_, fun n k b h1 h2 h3 => ?_⟩
    · rw [hP] at h4
      rw [hL, no b (cnA_hr h1 h2 h3 h4)]
      exact p5.1 n e i b h1 h2 h3 h4
    · rw [hR] at h3
      rw [no b (cnA_hf h1 h2 h3)]
      exact p5.2 n k b h1 h2 h3
/-- fixed rows are written, none of messages -/
theorem HP.cf {P : Nat → Prop} (h : HP g H T s ct hd) (hf : cfr P s s') (hP : ∀ a, P a → a < nd g H) : HP g H T s' ct hd := by
  obtain ⟨f1, f2, f3, f4, f5, f6, f7, f8, f9⟩ := hf
  have p5 := h.2.2.2.2
  have nP : ∀ a, cK s a = 5 → ¬ P a := fun a ha z => by
    have := hP a z
    have := h.n ha
    omega
  have hk := fun b (hb : 1 ≤ us g H T s hd b) => h.k hb
  have ln := fun b (hb : cK s b = 5) => h.n hb
  refine h.fr (fun b => by rw [f1]) (fun b _ => by rw [f2]) (fun b hb => f8 3 b (nP b hb)) (fun b _ => by rw [f5]) (fun k _ => by rw [f5]) (fun b => ?_) (fun b hb hb2 => ?_) ?_
  · unfold us
    rw [cnA_fr (s := s) (s' := s') (by rw [f6]) (fun _ _ _ _ => by rw [f6]) (fun _ _ _ _ => by rw [f5])]
  · have k5 := hk b hb
    exact hb2.fr (by rw [f1]) (by rw [f2]) (f8 2 b (nP b k5)) (f8 4 b (nP b k5)) (f8 5 b (nP b k5)) (by rw [f7]) (f9 (b + 2) (fun z => by
      have := hP _ z
      have := ln b k5
      omega))
  · refine ⟨fun n e i b h1 h2 h3 h4 => ?_, fun n k b h1 h2 h3 => ?_⟩
    · rw [f6] at h4
      have k5 := hk b (by have := cnA_hr (g := g) (H := H) (T := T) h1 h2 h3 h4; unfold us; omega)
      rw [f2, f8 4 b (nP b k5)]
      exact p5.1 n e i b h1 h2 h3 h4
    · rw [f5] at h3
      have k5 := hk b (by have := cnA_hf (g := g) (H := H) (T := T) h1 h2 h3; unfold us; omega)
      rw [f8 4 b (nP b k5)]
      exact p5.2 n k b h1 h2 h3
theorem fiP_lt (h : fiP g a) : a < nd g H := by
  unfold fiP isH at h
  unfold nd
  omega
/-- a message is looked at -/
theorem HP.lk (hS : St 0 g H T s) (h : HP g H T s ct hd) (ha : 1 ≤ us g H T s hd a) (hf : lkF g a s s') (hm : mF T s' a (ct a)) (h4 : cI s 4 a = nI 1 → cI s' 4 a = nI 1) : HP g H T s' ct hd := by
  have ms := (h.m ha).1.lk hS hf
  have ka := h.k ha
  have hk := fun b (hb : 1 ≤ us g H T s hd b) => h.k hb
  have ln := fun b (hb : cK s b = 5) => h.n hb
  have p5 := h.2.2.2.2
  obtain ⟨f1, f2, f3, f4, f5, f6, f7, f8⟩ := hf
  have nF : ∀ b, cK s b = 5 → b ≠ a → b < cn s ∧ ¬ (fiP g b ∨ b = a ∨ b = a + 1) := fun b hb hne => by
    obtain ⟨q1, q2, q3, q4⟩ := hS.ms hb
    obtain ⟨r1, r2, r3, r4⟩ := hS.ms ka
    refine ⟨(by omega), ?_⟩
    rintro (z | z | z)
    · exact fiP_no q1 z
    · exact hne z
    · rw [z, r3] at hb
      exact absurd hb (by decide)
  have o4 : ∀ b, 1 ≤ us g H T s hd b → cI s 4 b = nI 1 → cI s' 4 b = nI 1 := fun b hb h1 => by
    by_cases c : b = a
    · rw [c] at h1 ⊢
      exact h4 h1
    · obtain ⟨n1, n2⟩ := nF b (hk b hb) c
      rw [f1.I n1 n2]
      exact h1
  refine h.fr (fun b => by rw [f7]) (fun b _ => by rw [f8]) (fun b hb => ?_) (fun b _ => by rw [f3]) (fun k _ => by rw [f3]) (fun b => ?_) (fun b hb hb2 => ?_) ?_
  · by_cases c : b = a
    · rw [c]
      exact f2 3 (by decide) (by decide)
    · obtain ⟨n1, n2⟩ := nF b hb c
      exact f1.I n1 n2 3
  · unfold us
    rw [cnA_fr (s := s) (s' := s') (by rw [f4]) (fun _ _ _ _ => by rw [f4]) (fun _ _ _ _ => by rw [f3])]
  · by_cases c : b = a
    · rw [c]
      exact ⟨ms, hm⟩
    · have kb := hk b hb
      obtain ⟨n1, n2⟩ := nF b kb c
      obtain ⟨q1, q2, q3, q4⟩ := hS.ms kb
      obtain ⟨r1, r2, r3, r4⟩ := hS.ms ka
      have m1 : ¬ (fiP g (b + 1) ∨ b + 1 = a ∨ b + 1 = a + 1) := by
        rintro (z | z | z)
        · exact fiP_no (by omega) z
        · rw [z, ka] at q3
          exact absurd q3 (by decide)
        · omega
      have m2 : ¬ (fiP g (b + 2) ∨ b + 2 = a ∨ b + 2 = a + 1) := by
        rintro (z | z | z)
        · exact fiP_no (by omega) z
        · rw [z, ka] at q2
          exact absurd q2 (by decide)
        · rw [z, r3] at q2
          exact absurd q2 (by decide)
      exact hb2.fr (by rw [f7]) (by rw [f8]) (f1.I n1 n2 2) (f1.I n1 n2 4) (f1.I n1 n2 5) (f1.J (by omega) m1) (f1.A (by omega) m2)
  · refine ⟨fun n e i b h1 h2 h3 h4 => ?_, fun n k b h1 h2 h3 => ?_⟩
    · rw [f4] at h4
      have ub : 1 ≤ us g H T s hd b := by have := cnA_hr (g := g) (H := H) (T := T) h1 h2 h3 h4; unfold us; omega
      have z := p5.1 n e i b h1 h2 h3 h4
      rw [f8]
      exact ⟨z.1, fun x => o4 b ub (z.2 x)⟩
    · rw [f3] at h3
      exact o4 b (by have := cnA_hf (g := g) (H := H) (T := T) h1 h2 h3; unfold us; omega) (p5.2 n k b h1 h2 h3)
end
end
