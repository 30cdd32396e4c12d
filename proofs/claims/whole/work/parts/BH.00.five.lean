/-! NO BOOK OF A NODE BECOMES STALE, but by play, load and refresh -/
def M5 (g H : Nat) (s s' : cS) : Prop := Mono s s' ∧ ∀ m, m < H → cI s' 5 (nd g m + 6) = cI s 5 (nd g m + 6)
theorem M5.rfl' {g H : Nat} {s : cS} : M5 g H s s := ⟨Mono.rfl', fun _ _ => rfl⟩
theorem M5.trans {g H : Nat} {s s1 s2 : cS} (h : M5 g H s s1) (h' : M5 g H s1 s2) : M5 g H s s2 := ⟨h.1.trans h'.1, fun m hm => (h'.2 m hm).trans (h.2 m hm)⟩
theorem M5.tK {g H : Nat} {s s' : cS} (h : M5 g H s s') {k : Nat} {x : Option Nat} (t : tK s k x) (hk : k ≠ 0) : tK s' k x := h.1.tK t hk
theorem M5.I {g H : Nat} {s0 s : cS} (h : M5 g H s0 s) (k a : Nat) (v : Int32) (hk : 5 ≠ k := by decide) : M5 g H s0 (csI s k a v) := ⟨h.1, fun m hm => (cI_other _ _ (Or.inl hk)).trans (h.2 m hm)⟩
theorem M5.I5 {g H : Nat} {s0 s : cS} (h : M5 g H s0 s) (a : Nat) (v : Int32) (ha : ∀ m, m < H → nd g m + 6 ≠ a) : M5 g H s0 (csI s 5 a v) := ⟨h.1, fun m hm => (cI_other _ _ (Or.inr (ha m hm))).trans (h.2 m hm)⟩
theorem M5.R {g H : Nat} {s0 s : cS} (h : M5 g H s0 s) (k a : Nat) (v : Option Nat) : M5 g H s0 (csR s k a v) := h
theorem M5.A {g H : Nat} {s0 s : cS} (h : M5 g H s0 s) (a i : Nat) (x : Int32) : M5 g H s0 (csA s a i x) := h
theorem M5.Ar {g H : Nat} {s0 s : cS} (h : M5 g H s0 s) (a : Nat) (f : Nat → Int32) : M5 g H s0 (csArow s a f) := h
theorem M5.J {g H : Nat} {s0 s : cS} (h : M5 g H s0 s) (a i : Nat) (x : Int64) : M5 g H s0 (csJ s a i x) := h
theorem M5.Jr {g H : Nat} {s0 s : cS} (h : M5 g H s0 s) (a : Nat) (f : Nat → Int64) : M5 g H s0 (csJrow s a f) := h
theorem M5.P {g H : Nat} {s0 s : cS} (h : M5 g H s0 s) (a i : Nat) (v : Option Nat) : M5 g H s0 (csP s a i v) := h
theorem isB5 {g H m : Nat} (hm : m < H) : isO g H 0 (nd g m + 6) := Or.inl ⟨rfl, Or.inr (Or.inr ⟨m, hm, rfl⟩)⟩
theorem ne5K {u g H T m a c : Nat} {s : cS} (h : St u g H T s) (hm : m < H) (ha : cK s a = c) (hc : c ≠ 1) : nd g m + 6 ≠ a := fun e => by
  have q := h.1 0 _ (isB5 hm)
  rw [e, ha] at q
  exact hc q
theorem ne5M {u g H T : Nat} {s : cS} {x : Option Nat} (h : St u g H T s) (t : tK s 5 x) (hx : ¬ x = none) : ∀ m, m < H → nd g m + 6 ≠ za x := fun _ hm => ne5K h hm (t _ (za_of hx)) (by decide)
theorem ne5O {u g H T c a : Nat} {s : cS} (h : St u g H T s) (t : isO g H c a) (hc : c ≠ 0) : ∀ m, m < H → nd g m + 6 ≠ a := fun _ hm => ne5K h hm (h.1 c a t) (by omega)
theorem lt5 {u g H T m : Nat} {s : cS} (h : St u g H T s) (hm : m < H) : nd g m + 6 < cn s := h.lt (by rw [h.1 0 _ (isB5 hm)]; decide)
theorem m5_new {u g H T : Nat} {s : cS} (h : St u g H T s) (c n : Nat) : M5 g H s (csNew s c n) := ⟨mono_new h c n, fun m hm => by
  have := lt5 h hm
  show up1 (s.2.1 5) (cn s) 0 (nd g m + 6) = s.2.1 5 (nd g m + 6)
  unfold up1
  rw [if_neg (by omega)]⟩
theorem m5_msg {u g H T : Nat} {s : cS} (h : St u g H T s) (n m : Nat) (hm : m < H) : cI (csMsg s n) 5 (nd g m + 6) = cI s 5 (nd g m + 6) := by
  have l := lt5 h hm
  show up1 (up1 (up1 (s.2.1 5) (cn s) 0) (cn s + 1) 0) (cn s + 2) 0 (nd g m + 6) = s.2.1 5 (nd g m + 6)
  simp only [up1, if_neg (show nd g m + 6 ≠ cn s + 2 by omega), if_neg (show nd g m + 6 ≠ cn s + 1 by omega), if_neg (show nd g m + 6 ≠ cn s by omega)]
theorem kfin_5 {S : cS} {a m r : Nat} {x1 : Int32} (h : a ≠ m) : cI (kfin S m x1 r) 5 a = cI S 5 a := by
  unfold kfin
  rw [cI_other _ _ (Or.inr h), cI_other _ _ (Or.inr h), cI_other _ _ (Or.inr h), cI_other _ _ (Or.inr h)]
  rfl
theorem k5c_X9_fresh {u g H T N : Nat} {S : cS} {a0 : Nat} {x1 : Int32} (hS : St u g H T S) (t_x0 : isO g H 7 a0) (ok : p_X9_fresh N g H T S a0 x1) : St u g H T (k_X9_fresh N g H T S a0 x1).2 ∧ M5 g H S (k_X9_fresh N g H T S a0 x1).2 ∧ tK (k_X9_fresh N g H T S a0 x1).2 5 (k_X9_fresh N g H T S a0 x1).1 := by
  obtain ⟨h1, h2, h3, h4, h5, -⟩ := fresh_all (N := N) (x1 := x1) hS t_x0
  refine ⟨h3, ⟨h4, fun m hm => ?_⟩, h5⟩
  have key : ∀ k n, (k = 7 ∨ k = 8) → cI (if cR S k a0 = none then (some (cn S), kfin (csMsg S n) (cn S) x1 n) else (cR S k a0, kfin (csR S k a0 (cR S 6 (za (cR S k a0)))) (za (cR S k a0)) x1 (cL S (za (cR S k a0) + 2)))).2 5 (nd g m + 6) = cI S 5 (nd g m + 6) := fun k n hk => by
    by_cases e : cR S k a0 = none
    · rw [if_pos e]
      show cI (kfin (csMsg S n) (cn S) x1 n) 5 (nd g m + 6) = _
      have := lt5 hS hm
      rw [kfin_5 (by omega)]
      exact m5_msg hS n m hm
    · rw [if_neg e]
      show cI (kfin (csR S k a0 (cR S 6 (za (cR S k a0)))) (za (cR S k a0)) x1 (cL S (za (cR S k a0) + 2))) 5 (nd g m + 6) = _
      rw [kfin_5 (ne5M hS (hS.sk t_x0 hk) e m hm)]
      rfl
  unfold k_X9_fresh
  by_cases c : nI 128 < x1
  · rw [if_pos c]
    exact key 8 1000 (Or.inr rfl)
  · rw [if_neg c]
    exact key 7 128 (Or.inl rfl)
