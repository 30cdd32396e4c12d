section
/-! THE CLASS IS MADE: its state tells the first world -/
section
variable {N g H T n k o c a b i F L : Nat} {s s' s1 s2 S X : cS}
/-- what holds of every address at the start -/
def kn0 (s : cS) (a : Nat) : Prop := cK s a ≠ 5 ∧ (cK s a = 24 ∨ cK s a = 26 → ∀ j, cP s a j = none) ∧ (cK s a = 20 → ∀ i, cA s a i = 0)
theorem ob.kn {I : Nat → Int32} {R : Nat → Option Nat} {A : Nat → Int32} (h : ob s a k n I R A) (k5 : k ≠ 5) (hA : k = 20 → A = z0) : kn0 s a := ⟨by rw [h.1]; exact k5, fun _ => h.2.2.2.2.2.2, fun q i => by
  rw [h.1] at q
  rw [h.2.2.2.2.1 i, hA q]
  rfl⟩
theorem ob.kr {I : Nat → Int32} {R : Nat → Option Nat} (h : ob s a k n I R z0) (k5 : k ≠ 5) : kn0 s a := h.kn k5 (fun _ => rfl)
theorem mdB.kn (h : mdB F g H T H s) : ∀ a, kn0 s a := fun a => by
  obtain ⟨⟨l0, l1, l2⟩, ⟨h0, h1, h2, h3, h4⟩, ⟨f0, f1⟩, ⟨w0, ⟨k0, k1, k2, k3, k4, k5, k6⟩, ⟨b0, b1, b2, b3, b4⟩, ⟨c0, c1, c2, c3, c4⟩, d0, d1⟩, ⟨n1, n2, n3⟩, nn, cc, kk_, ze⟩ := h
  by_cases q0 : a < g ∨ nd g H ≤ a
  · have z := ze a q0
    refine ⟨by rw [z]; decide, ?_, ?_⟩
    · rw [z]
      rintro (q | q) <;> exact absurd q (by decide)
    · rw [z]
      intro q
      exact absurd q (by decide)
  by_cases q1 : a < g + 31
  · obtain ⟨j, rfl⟩ : ∃ j, a = g + j := ⟨a - g, by omega⟩
    have hj : j < 31 := by omega
    match j, hj with
    | 0, _ => exact l0.kr (by decide)
    | 1, _ => exact l1.kr (by decide)
    | 2, _ => exact l2.kr (by decide)
    | 3, _ => exact h0.kr (by decide)
    | 4, _ => exact h1.kr (by decide)
    | 5, _ => exact h2.kr (by decide)
    | 6, _ => exact h3.kr (by decide)
    | 7, _ => exact h4.kr (by decide)
    | 8, _ => exact w0.kr (by decide)
    | 9, _ => exact f0.kr (by decide)
    | 10, _ => exact f1.kr (by decide)
    | 11, _ => exact k0.kr (by decide)
    | 12, _ => exact k1.kr (by decide)
    | 13, _ => exact k2.kn (by decide) (fun q => absurd q (by decide))
    | 14, _ => exact k3.kr (by decide)
    | 15, _ => exact k4.kr (by decide)
    | 16, _ => exact k5.kr (by decide)
    | 17, _ => exact k6.kr (by decide)
    | 18, _ => exact b0.kr (by decide)
    | 19, _ => exact b1.kn (by decide) (fun q => absurd q (by decide))
    | 20, _ => exact b2.kr (by decide)
    | 21, _ => exact b3.kr (by decide)
    | 22, _ => exact b4.kr (by decide)
    | 23, _ => exact c0.kr (by decide)
    | 24, _ => exact c1.kn (by decide) (fun q => absurd q (by decide))
    | 25, _ => exact c2.kr (by decide)
    | 26, _ => exact c3.kr (by decide)
    | 27, _ => exact c4.kr (by decide)
    | 28, _ => exact d0.kr (by decide)
    | 29, _ => exact d1.kr (by decide)
    | 30, _ =>
      refine ⟨by rw [n1]; decide, ?_, ?_⟩
      · rw [n1]
        rintro (q | q) <;> exact absurd q (by decide)
      · rw [n1]
        intro q
        exact absurd q (by decide)
    | j + 31, hj => exact absurd hj (by omega)
  · obtain ⟨i, x, hi, hx, rfl⟩ : ∃ i x, i < H ∧ x < 24 ∧ a = nd g i + x := ⟨(a - (g + 31)) / 24, (a - (g + 31)) % 24, by unfold nd at q0; omega, by omega, by unfold nd; omega⟩
    obtain ⟨e0, ⟨o0, o1, o2, o3, o4⟩, ⟨p0, p1, p2, p3, p4⟩, r0, r1, r2, ⟨s0, t1, t2, t3, t4, t5, t6, t7, t8, t9⟩⟩ := nn i hi
    match x, hx with
    | 0, _ => exact e0.kr (by decide)
    | 1, _ => exact o0.kr (by decide)
    | 2, _ => exact o1.kr (by decide)
    | 3, _ => exact o2.kr (by decide)
    | 4, _ => exact o3.kr (by decide)
    | 5, _ => exact o4.kr (by decide)
    | 6, _ => exact p0.kr (by decide)
    | 7, _ => exact p1.kn (by decide) (fun q => absurd q (by decide))
    | 8, _ => exact p2.kr (by decide)
    | 9, _ => exact p3.kr (by decide)
    | 10, _ => exact p4.kr (by decide)
    | 11, _ => exact r0.kr (by decide)
    | 12, _ => exact r1.kr (by decide)
    | 13, _ => exact r2.kr (by decide)
    | 14, _ => exact s0.kr (by decide)
    | 15, _ => exact t1.kr (by decide)
    | 16, _ => exact t2.kr (by decide)
    | 17, _ => exact t3.kr (by decide)
    | 18, _ => exact t4.kr (by decide)
    | 19, _ => exact t5.kr (by decide)
    | 20, _ => exact t6.kr (by decide)
    | 21, _ => exact t7.kr (by decide)
    | 22, _ => exact t8.kr (by decide)
    | 23, _ => exact t9.kr (by decide)
    | x + 24, hx => exact absurd hx (by omega)
/-- a fixed reference -/
theorem ob.rl {I : Nat → Int32} {R : Nat → Option Nat} {A : Nat → Int32} {I' : Nat → Int32} {R' : Nat → Option Nat} {A' : Nat → Int32} {q k' n' j : Nat} {P : Prop} (h : ob s a k n I R A) (e : R j = some q) (h' : ob s q k' n' I' R' A') : cR s j a = some q ∧ cK s q = k' ∧ (P ∨ cL s q = n') := ⟨by rw [h.2.2.2.1 j, e], h'.1, Or.inr h'.2.1⟩
theorem boB.rel {q : Nat × Nat × Nat} (h : boB s o) (e : rel g T 0 k o = some q) : cR s k o = some q.1 ∧ cK s q.1 = q.2.1 ∧ (0 = 8 ∧ k = 4 ∨ cL s q.1 = q.2.2) := by
  obtain ⟨b0, b1, b2, b3, b4⟩ := h
  match k, e with
  | 0, e => cases e; exact b0.rl rfl b1
  | 1, e => cases e; exact b0.rl rfl b2
  | 2, e => cases e
  | 3, e => cases e; exact b0.rl rfl b3
  | 4, e => cases e; exact b0.rl rfl b4
  | k + 5, e => cases e
theorem mdB.st (h : mdB F g H T H s) : St 0 g H T s := by
  have kn := h.kn
  obtain ⟨⟨l0, l1, l2⟩, ⟨h0, h1, h2, h3, h4⟩, ⟨f0, f1⟩, ⟨w0, ⟨k0, k1, k2, k3, k4, k5, k6⟩, bb, bc, d0, d1⟩, ⟨n1, n2, n3⟩, nn, cc, kk_, ze⟩ := h
  refine ⟨?_, ?_, fun a q => absurd q (kn a).1, fun a q j x e => ?_, fun a q j x e => ?_, n3, n2, ?_, ?_, fun a ha => ze a (Or.inr (by omega)), fun a q i => ?_⟩
  · rintro c a (⟨rfl, rfl | rfl | ⟨i, hi, rfl⟩⟩ | ⟨rfl, rfl⟩ | ⟨rfl, rfl⟩ | ⟨rfl, i, hi, rfl⟩ | ⟨rfl, i, hi, rfl⟩ | ⟨rfl, i, hi, rfl⟩ | ⟨rfl, rfl⟩ | ⟨rfl, rfl⟩ | ⟨rfl, rfl⟩)
    · exact bb.1.1
    · exact bc.1.1
    · exact (nn i hi).2.2.1.1.1
    · exact f0.1
    · exact h0.1
    · exact (nn i hi).2.1.1.1
    · exact (nn i hi).1.1
    · exact (nn i hi).2.2.2.2.2.2.1.1
    · exact k0.1
    · exact w0.1
    · exact l0.1
  · rintro c k a (⟨rfl, rfl | rfl | ⟨i, hi, rfl⟩⟩ | ⟨rfl, rfl⟩ | ⟨rfl, rfl⟩ | ⟨rfl, i, hi, rfl⟩ | ⟨rfl, i, hi, rfl⟩ | ⟨rfl, i, hi, rfl⟩ | ⟨rfl, rfl⟩ | ⟨rfl, rfl⟩ | ⟨rfl, rfl⟩) hn q e
    · exact bb.rel e
    · exact bc.rel e
    · exact (nn i hi).2.2.1.rel e
    · match k, e with
      | 0, e => cases e; exact f0.rl rfl h0
      | 1, e => cases e
      | 2, e => cases e; exact f0.rl rfl f1
      | k + 3, e => cases e
    · match k, e with
      | 0, e => cases e; exact h0.rl rfl h1
      | 1, e => cases e; exact h0.rl rfl h2
      | 2, e => cases e; exact h0.rl rfl h3
      | 3, e => cases e; exact h0.rl rfl h4
      | k + 4, e => cases e
    · obtain ⟨o0, o1, o2, o3, o4⟩ := (nn i hi).2.1
      match k, e with
      | 0, e => cases e; exact o0.rl rfl o1
      | 1, e => cases e; exact o0.rl rfl o2
      | 2, e => cases e; exact o0.rl rfl o3
      | 3, e => cases e; exact o0.rl rfl o4
      | k + 4, e => cases e
    · obtain ⟨e0, oo, pp, r0, r1, r2, ss⟩ := nn i hi
      match k, e with
      | 0, e => cases e; exact e0.rl rfl w0
      | 1, e => cases e
      | 2, e => cases e; exact e0.rl rfl oo.1
      | 3, e => cases e; exact e0.rl rfl ss.1
      | 4, e => cases e; exact e0.rl rfl pp.1
      | 5, e => cases e; exact e0.rl rfl r0
      | 6, e => cases e; exact e0.rl rfl r1
      | 7, e => cases e; exact e0.rl rfl r2
      | k + 8, e => cases e
    · obtain ⟨s0, t1, t2, t3, t4, t5, t6, t7, t8, t9⟩ := (nn i hi).2.2.2.2.2.2
      match k, e with
      | 0, e => cases e; exact s0.rl rfl k0
      | 1, e => cases e
      | 2, e => cases e; exact s0.rl rfl t1
      | 3, e => cases e; exact s0.rl rfl t2
      | 4, e => cases e; exact s0.rl rfl t5
      | 5, e => cases e; exact s0.rl rfl t3
      | 6, e => cases e; exact s0.rl rfl t6
      | 7, e => cases e; exact s0.rl rfl t7
      | 8, e => cases e; exact s0.rl rfl t8
      | 9, e => cases e; exact s0.rl rfl t9
      | 10, e => cases e; exact s0.rl rfl t4
      | k + 11, e => cases e
    · match k, e with
      | 0, e => cases e; exact k0.rl rfl k1
      | 1, e => cases e; exact k0.rl rfl k2
      | 2, e => cases e; exact k0.rl rfl k3
      | 3, e => cases e; exact k0.rl rfl k4
      | 4, e => cases e; exact k0.rl rfl k5
      | 5, e => cases e; exact k0.rl rfl k6
      | k + 6, e => cases e
    · match k, e with
      | 0, e => cases e
      | 1, e => cases e
      | 2, e => cases e
      | 3, e => cases e
      | 4, e => cases e; exact ⟨w0.2.2.2.1 4, n1, Or.inl ⟨rfl, rfl⟩⟩
      | 5, e => cases e; exact w0.rl rfl h0
      | 6, e => cases e; exact w0.rl rfl k0
      | 7, e => cases e; exact w0.rl rfl f0
      | 8, e => cases e; exact w0.rl rfl bb.1
      | 9, e => cases e; exact w0.rl rfl bc.1
      | 10, e => cases e; exact w0.rl rfl d0
      | 11, e => cases e; exact w0.rl rfl d1
      | k + 12, e => cases e
    · match k, e with
      | 0, e => exact absurd ⟨rfl, rfl, rfl⟩ hn
      | 1, e => cases e; exact l0.rl rfl l1
      | 2, e => cases e; exact l0.rl rfl l2
      | k + 3, e => cases e
  · rw [(kn a).2.1 (Or.inl q) j] at e
    cases e
  · rw [(kn a).2.1 (Or.inr q) j] at e
    cases e
  · intro a k ha hk x e
    rcases ha with ⟨z, _⟩ | ⟨z, _⟩ | ⟨z, _⟩ | ⟨z, _⟩ | ⟨_, i, hi, rfl⟩ | ⟨z, _⟩ | ⟨z, _⟩ | ⟨z, _⟩ | ⟨z, _⟩
    · exact absurd z (by decide)
    · exact absurd z (by decide)
    · exact absurd z (by decide)
    · exact absurd z (by decide)
    · have := (nn i hi).1.2.2.2.1 k
      rw [e] at this
      rcases hk with rfl | rfl <;> cases this
    · exact absurd z (by decide)
    · exact absurd z (by decide)
    · exact absurd z (by decide)
    · exact absurd z (by decide)
  · intro k hk x e
    have := k0.2.2.2.1 k
    rw [e] at this
    rcases hk with rfl | rfl <;> cases this
  · rw [(kn a).2.2 q i]
    decide
theorem sm0 {f : Nat → Nat} : ∀ n, (∀ i, i < n → f i = 0) → smN f n = 0
  | 0, _ => rfl
  | n + 1, h => by
    show smN f n + f n = 0
    rw [sm0 n (fun i hi => h i (by omega)), h n (by omega)]
theorem ind0 : ind none a = 0 := if_neg (fun q => by cases q)
theorem mdB.cn0 (h : mdB F g H T H s) : cnA g H T s a = 0 := by
  obtain ⟨ll, hh, ff, ⟨w0, ⟨k0, k1, k2, k3, k4, k5, k6⟩, bb, bc, d0, d1⟩, n1, nn, cc, kk_, ze⟩ := h
  have z1 : ∀ i, i < 1000 → ind (cP s (g + 17) i) a = 0 := fun i _ => by
    rw [show cP s (g + 17) i = none from k6.2.2.2.2.2.2 i]
    exact ind0
  have z2 : ∀ i, i < H → cnN g T s a i = 0 := fun i hi => by
    obtain ⟨e0, oo, pp, r0, r1, r2, ⟨s0, t1, t2, t3, t4, t5, t6, t7, t8, t9⟩⟩ := nn i hi
    have z3 : ∀ e, e < 6 → smN (fun j => ind (cP s (nd g i + plO e) j) a) (plN T e) = 0 := fun e he => sm0 _ (fun j _ => by
      match e, he with
      | 0, _ => rw [show cP s (nd g i + plO 0) j = none from t1.2.2.2.2.2.2 j]; exact ind0
      | 1, _ => rw [show cP s (nd g i + plO 1) j = none from t5.2.2.2.2.2.2 j]; exact ind0
      | 2, _ => rw [show cP s (nd g i + plO 2) j = none from t6.2.2.2.2.2.2 j]; exact ind0
      | 3, _ => rw [show cP s (nd g i + plO 3) j = none from t8.2.2.2.2.2.2 j]; exact ind0
      | 4, _ => rw [show cP s (nd g i + plO 4) j = none from t9.2.2.2.2.2.2 j]; exact ind0
      | 5, _ => rw [show cP s (nd g i + plO 5) j = none from r2.2.2.2.2.2.2 j]; exact ind0
      | e + 6, he => exact absurd he (by omega))
    unfold cnN
    rw [show cR s 14 (nd g i) = none from e0.2.2.2.1 14, show cR s 15 (nd g i) = none from e0.2.2.2.1 15, ind0, sm0 6 z3]
  unfold cnA
  rw [sm0 1000 z1, sm0 H z2]
theorem mdB.hp {ct : Nat → List Nat} (h : mdB F g H T H s) : HP g H T s ct [] := by
  have kn := h.kn
  have u0 : ∀ a, us g H T s [] a = 0 := fun a => by
    unfold us
    rw [h.cn0]
    rfl
  have k0 := h.2.2.2.1.2.1.1
  have fr : ∀ k L, k = 7 ∨ k = 8 → fre g H T s [] k L := fun k L hk => by
    refine ⟨[], ?_, List.nodup_nil, fun a => ⟨(fun q => by cases q), fun q => absurd q.1 (kn a).1⟩⟩
    show cR s k (g + 11) = none
    rw [k0.2.2.2.1 k]
    rcases hk with rfl | rfl <;> rfl
  refine ⟨fr 7 128 (Or.inl rfl), fr 8 1000 (Or.inr rfl), fun a q => absurd q (kn a).1, fun a q => absurd (u0 a) (by omega), ?_, ?_⟩
  · intro n e i a hn he hi q
    have := cnA_hr (g := g) (H := H) (T := T) hn he hi q
    rw [h.cn0] at this
    omega
  · intro n k a hn hk q
    have := cnA_hf (g := g) (H := H) (T := T) hn hk q
    rw [h.cn0] at this
    omega
theorem mdB.rm (h : mdB F g H T H s) (hH : H ≤ 13) : RM g H (g + 400) 90000 s := by
  have kn := h.kn
  have n0_ : ∀ L, nM s L = 0 := fun L => sm0 _ (fun i _ => if_neg (fun q => (kn i).1 q.1))
  obtain ⟨ll, hh, ff, ww, n1, nn, cc, kk_, ze⟩ := h
  unfold RM
  rw [n0_, n0_]
  unfold nd at cc
  exact ⟨by omega, by omega, by omega, by omega⟩
theorem boB.bk {K : Bk} (h : boB s o) (k1 : ∀ a, a < 16 → K a = 1000 ∧ K (16 + a) = 0 ∧ K (32 + a) = 0) : bkC s o K ∧ rtC s o K := by
  obtain ⟨b0, b1, b2, b3, b4⟩ := h
  refine ⟨⟨fun a ha => ⟨?_, ?_⟩, ?_⟩, Or.inl (b0.2.2.1 5)⟩
  · rw [b1.2.2.2.2.1 a, (k1 a ha).1]
    show (if a < 16 then nI 1000 else 0) = iI 1000
    rw [if_pos ha]
    rfl
  · rw [b2.2.2.2.2.1 a, (k1 a ha).2.1]
    rfl
  · rw [b0.2.2.1 2]
    have : finB K = 0 := sm0 16 (fun a ha => if_pos (k1 a ha).2.2)
    rw [this]
    rfl
/-- nothing pends; room is kept back -/
def pe1 : Nat → Int := fun m => if m < 100 then -1 else 0
/-- the first world is told -/
theorem mdB.cr {ct : Nat → List Nat} (h : mdB F g H T H s) (hc : cst F H T) (h1 : 1 ≤ H) : CR F g H T s ct [] w00 pe1 := by
  have cb := hc.bb
  have st := h.st
  have hp := h.hp (ct := ct)
  have rm := h.rm (by omega)
  obtain ⟨G, g0⟩ := (AI_ini hc 0 (by omega)).1.1.1
  have ok0 : bkOK (bkN (wN w00) 0) := (g0.2.1 0 (by omega)).b.1
  have k0 : ∀ a, a < 16 → bkN (wN w00) 0 a = 1000 ∧ bkN (wN w00) 0 (16 + a) = 0 ∧ bkN (wN w00) 0 (32 + a) = 0 := fun a ha => by
    refine ⟨?_, ?_, ?_⟩
    · show (if 32 + a = 0 ∨ 32 + a = 1 then (1 : Int) else if 32 + a = 4 ∨ 32 + a = 5 ∨ (9 ≤ 32 + a ∧ 32 + a ≤ 11) then -1 else if 32 ≤ 32 + a ∧ 32 + a < 48 then 1000 else 0) = 1000
      rw [if_neg (by omega), if_neg (by omega), if_pos (by omega)]
    · show (if 32 + (16 + a) = 0 ∨ 32 + (16 + a) = 1 then (1 : Int) else if 32 + (16 + a) = 4 ∨ 32 + (16 + a) = 5 ∨ (9 ≤ 32 + (16 + a) ∧ 32 + (16 + a) ≤ 11) then -1 else if 32 ≤ 32 + (16 + a) ∧ 32 + (16 + a) < 48 then 1000 else 0) = 0
      rw [if_neg (by omega), if_neg (by omega), if_neg (by omega)]
    · show (if 32 + (32 + a) = 0 ∨ 32 + (32 + a) = 1 then (1 : Int) else if 32 + (32 + a) = 4 ∨ 32 + (32 + a) = 5 ∨ (9 ≤ 32 + (32 + a) ∧ 32 + (32 + a) ≤ 11) then -1 else if 32 ≤ 32 + (32 + a) ∧ 32 + (32 + a) < 48 then 1000 else 0) = 0
      rw [if_neg (by omega), if_neg (by omega), if_neg (by omega)]
  have vz : ∀ n j, (12 ≤ j ∧ j < 32) ∨ 80 ≤ j ∨ j = 2 ∨ j = 3 ∨ (6 ≤ j ∧ j ≤ 8) → wN w00 n j = 0 := fun n j hj => by
    show (if j = 0 ∨ j = 1 then (1 : Int) else if j = 4 ∨ j = 5 ∨ (9 ≤ j ∧ j ≤ 11) then -1 else if 32 ≤ j ∧ j < 48 then 1000 else 0) = 0
    rw [if_neg (by omega), if_neg (by omega), if_neg (by omega)]
  have yz : ∀ n f i, f ≠ 9 → wY w00 n f i = none := fun n f i hf => if_neg (fun q => hf q.1)
  obtain ⟨⟨l0, l1, l2⟩, hh, ⟨f0, f1⟩, ⟨w0, ⟨q0, q1, q2, q3, q4, q5, q6⟩, bb, bc, d0, d1⟩, ⟨n1, n2, n3⟩, nn, cc, kk_, ze⟩ := h
  refine ⟨hc, st, by omega, hp, by rw [show rb pe1 = 0 from rb_1]; exact rm, ⟨w0.2.2.1 0, w0.2.2.1 1, w0.2.2.1 2, w0.2.2.1 3, f0.2.2.1 1⟩, ?_, ?_, ?_, ?_, fun n hn => ?_⟩
  · refine ⟨⟨fun _ => 0, fun j => j, ⟨q0.2.2.1 9, by show 0 ≤ 1000; omega, ⟨0, by omega, q0.2.2.1 6, fun k hk => absurd hk (by show ¬ k < 0; omega)⟩, fun j _ hj => ?_, fun j hj => hj, fun i j _ _ q => q, fun k hk => absurd hk (by show ¬ k < 0; omega)⟩, fun i hi => absurd hi (by show ¬ i < 0; omega), fun j _ hj => q6.2.2.2.2.2.2 j⟩, q0.2.2.1 11, q0.2.2.1 12, q0.2.2.1 10⟩
    show cA s (g + 13) j = nI j
    rw [show cA s (g + 13) j = _ from q2.2.2.2.2.1 j]
    show (if j < 1000 then nI j else 0) = nI j
    rw [if_pos hj]
  · exact ⟨l0.2.2.1 3, by show 0 ≤ 1000; omega, fun i => by show bg [] i < 256; rw [bg_out (by simp)]; decide, fun i hi => absurd hi (by show ¬ i < 0; omega)⟩
  · exact ⟨_, ok0, bc.bk k0⟩
  · intro n i n' i' r a1 a2 a3 a4 a5
    rw [show cP s (nd g n + 2) i = none from (nn n a1).2.1.2.1.2.2.2.2.2.2 i] at a5
    cases a5
  obtain ⟨e0, ⟨o0, o1, o2, o3, o4⟩, pp, r0, r1, r2, ⟨s0, t1, t2, t3, t4, t5, t6, t7, t8, t9⟩⟩ := nn n hn
  rw [show pe1 n = -1 from if_pos (by omega)]
  refine ⟨⟨e0.2.2.1 1, e0.2.2.1 8, e0.2.2.1 9, e0.2.2.1 10, e0.2.2.1 11, e0.2.2.1 12, e0.2.2.1 13, ?_, e0.2.2.1 17, e0.2.2.1 18⟩, fun t ht => ?_, ⟨?_, ?_, ?_, ?_, ?_⟩, fun i hi => ?_, fun h _ _ => ⟨fun _ => o4.2.2.2.2.1 h, fun y e => ?_⟩, ⟨(pp.bk (K := vB (wN w00 n)) (fun a ha => ?_)).1, (pp.bk (K := vB (wN w00 n)) (fun a ha => ?_)).2, z32, rfl, mkB_len _ _, isB_mk (fun _ _ => by decide), fun i hi => ?_⟩, ⟨fun _ _ => none, ⟨fun i _ => ?_, fun c p r k _ _ _ _ => ?_, fun i _ => Or.inl (t2.2.2.2.2.1 i), fun p hp => ⟨0, by omega, ?_, fun r _ _ => ⟨rfl, fun _ _ _ _ => rfl⟩⟩⟩, fun _ f i hf => ?_, fun q => absurd rfl q⟩, ⟨fun k hk => ?_, fun k m hk e => ?_, ?_⟩, ⟨fun k hk => ?_, fun k hk => ?_, ?_⟩, ⟨s0.2.2.1 12, by show 0 ≤ 80; omega, fun i hi => absurd hi (by show ¬ i < 0; omega)⟩, ⟨?_, ?_, fun k a hk e => ?_⟩, fun j a hj e => ?_, s0.2.2.1 1, ⟨o3.2.2.2.2.1 6, o3.2.2.2.2.1 7⟩⟩
  · rw [e0.2.2.1 16]
    unfold beN
    rw [vz n 6 (by omega), vz n 7 (by omega), vz n 8 (by omega)]
    rfl
  · rw [r1.2.2.2.2.1 t]
    have : wN w00 n (9 + t) = -1 := by
      show (if 9 + t = 0 ∨ 9 + t = 1 then (1 : Int) else if 9 + t = 4 ∨ 9 + t = 5 ∨ (9 ≤ 9 + t ∧ 9 + t ≤ 11) then -1 else _) = -1
      rw [if_neg (by omega), if_pos (by omega)]
    rw [this]
    rfl
  · rw [o0.2.2.1 5, vz n 16 (by omega)]
    rfl
  · rw [o0.2.2.1 6, vz n 15 (by omega)]
    rfl
  · rw [o0.2.2.1 7, vz n 13 (by omega)]
    rfl
  · rw [o0.2.2.1 8, vz n 14 (by omega)]
    rfl
  · rw [o0.2.2.1 9, vz n 12 (by omega)]
    rfl
  · refine ⟨?_, Or.inl (vz n _ (by omega)), fun _ => ⟨vz n _ (by omega), fun j _ => rfl⟩, fun r e => ?_⟩
    · rw [show cA s (nd g n + 3) i = _ from o2.2.2.2.2.1 i, vz n _ (by omega)]
      rfl
    · rw [show cP s (nd g n + 2) i = none from o1.2.2.2.2.2.2 i] at e
      cases e
  · rw [yz n 7 h (by decide)] at e
    cases e
  · have := k0 a ha
    unfold vB
    rw [if_pos (by omega), if_pos (by omega), if_pos (by omega)]
    exact this
  · have := k0 a ha
    unfold vB
    rw [if_pos (by omega), if_pos (by omega), if_pos (by omega)]
    exact this
  · rw [show cA s (nd g n + 11) i = _ from r0.2.2.2.2.1 i]
    unfold z32
    rw [mkB_in hi]
    rfl
  · rw [show cP s (nd g n + 15) i = none from t1.2.2.2.2.2.2 i]
    rfl
  · rw [show cP s (nd g n + 19) (vqC T c p r k) = none from t5.2.2.2.2.2.2 _]
    rfl
  · rw [show cA s (nd g n + 17) p = _ from t3.2.2.2.2.1 p]
    rfl
  · rw [yz n f i (by omega)]
  · rw [show cP s (nd g n + 20) k = none from t6.2.2.2.2.2.2 k, yz n 6 k (by decide)]
    rfl
  · rw [yz n 6 k (by decide)] at e
    cases e
  · rw [show cI s 11 (nd g n + 14) = _ from s0.2.2.1 11, cnt_n (fun k _ q => q (yz n 6 k (by decide)))]
    rfl
  · rw [show cP s (nd g n + 22) k = none from t8.2.2.2.2.2.2 k, yz n 3 k (by decide)]
    rfl
  · rw [show cP s (nd g n + 23) k = none from t9.2.2.2.2.2.2 k, yz n 2 k (by decide)]
    rfl
  · rw [show cI s 13 (nd g n + 14) = _ from s0.2.2.1 13, cnt_n (fun k _ q => q (yz n 2 k (by decide)))]
    rfl
  · rw [show cR s 14 (nd g n) = none from e0.2.2.2.1 14, yz n 0 0 (by decide)]
    rfl
  · rw [show cR s 15 (nd g n) = none from e0.2.2.2.1 15, yz n 1 0 (by decide)]
    rfl
  · rw [show cR s k (nd g n) = none by rcases hk with rfl | rfl; exact e0.2.2.2.1 14; exact e0.2.2.2.1 15] at e
    cases e
  · rw [show cP s (nd g n + 13) j = none from r2.2.2.2.2.2.2 j] at e
    cases e
end
end
