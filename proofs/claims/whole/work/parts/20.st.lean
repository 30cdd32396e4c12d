/-! WHERE THE CLASS'S OBJECTS STAND: g the ledger, H honest nodes, T nodes in all. St (u = 0: the ledger's world is not yet set): every fixed object has its kind and its fixed references; what is held in rows of messages are messages. Then kinds never change (Mono). -/
def nd (g i : Nat) : Nat := g + 31 + 24 * i
/-- a is a fixed object of kind c (0 Book, 1 Form, 2 Hasher, 3 Log, 5 Node, 6 Shelf, 7 Sky, 8 World, 9 the ledger) -/
def isO (g H c a : Nat) : Prop := (c = 0 ∧ (a = g + 18 ∨ a = g + 23 ∨ ∃ i, i < H ∧ a = nd g i + 6)) ∨ (c = 1 ∧ a = g + 9) ∨ (c = 2 ∧ a = g + 3) ∨ (c = 3 ∧ ∃ i, i < H ∧ a = nd g i + 1) ∨ (c = 5 ∧ ∃ i, i < H ∧ a = nd g i) ∨ (c = 6 ∧ ∃ i, i < H ∧ a = nd g i + 14) ∨ (c = 7 ∧ a = g + 11) ∨ (c = 8 ∧ a = g + 8) ∨ (c = 9 ∧ a = g)
/-- its fixed reference by field k: where it leads, the kind of what stands there (an object's number + 1, a row's), a row's length -/
def rel (g T c k a : Nat) : Option (Nat × Nat × Nat) := match c, k with
  | 0, 0 => some (a + 1, 21, 16) | 0, 1 => some (a + 2, 21, 16) | 0, 3 => some (a + 3, 20, 32) | 0, 4 => some (a + 4, 20, 6)
  | 1, 0 => some (g + 3, 3, 6) | 1, 2 => some (a + 1, 20, 32)
  | 2, 0 => some (a + 1, 20, 1088) | 2, 1 => some (a + 2, 21, 64) | 2, 2 => some (a + 3, 21, 8) | 2, 3 => some (a + 4, 20, 2112)
  | 3, 0 => some (a + 1, 26, 284) | 3, 1 => some (a + 2, 23, 284) | 3, 2 => some (a + 3, 20, 1024) | 3, 3 => some (a + 4, 21, 41)
  | 5, 0 => some (g + 8, 9, 12) | 5, 2 => some (a + 1, 4, 10) | 5, 3 => some (a + 14, 7, 14) | 5, 4 => some (a + 6, 1, 6) | 5, 5 => some (a + 11, 20, 32) | 5, 6 => some (a + 12, 21, 3) | 5, 7 => some (a + 13, 24, 4)
  | 6, 0 => some (g + 11, 8, 13) | 6, 2 => some (a + 1, 24, 32) | 6, 3 => some (a + 2, 21, 32) | 6, 4 => some (a + 5, 24, 64 * T) | 6, 5 => some (a + 3, 21, 2) | 6, 6 => some (a + 6, 24, T) | 6, 7 => some (a + 7, 21, T) | 6, 8 => some (a + 8, 24, T) | 6, 9 => some (a + 9, 24, T) | 6, 10 => some (a + 4, 22, 80)
  | 7, 0 => some (a + 1, 21, 1024) | 7, 1 => some (a + 2, 21, 1000) | 7, 2 => some (a + 3, 21, 1000) | 7, 3 => some (a + 4, 21, 1000) | 7, 4 => some (a + 5, 21, 1000) | 7, 5 => some (a + 6, 24, 1000)
  | 8, 4 => some (g + 30, 25, 0) | 8, 5 => some (g + 3, 3, 6) | 8, 6 => some (g + 11, 8, 13) | 8, 7 => some (g + 9, 2, 3) | 8, 8 => some (g + 18, 1, 6) | 8, 9 => some (g + 23, 1, 6) | 8, 10 => some (g + 28, 20, 1024) | 8, 11 => some (g + 29, 20, 32)
  | 9, 0 => some (g + 8, 9, 12) | 9, 1 => some (g + 1, 20, 1000) | 9, 2 => some (g + 2, 20, 1024)
  | _, _ => none
/-- null, or of kind k -/
def tK (s : cS) (k : Nat) (x : Option Nat) : Prop := ∀ a, x = some a → cK s a = k
def tN (g H : Nat) (x : Option Nat) : Prop := ∀ a, x = some a → isO g H 5 a
def St (u g H T : Nat) (s : cS) : Prop :=
  (∀ c a, isO g H c a → cK s a = c + 1) ∧
  (∀ c k a, isO g H c a → ¬ (u = 0 ∧ c = 9 ∧ k = 0) → ∀ q, rel g T c k a = some q → cR s k a = some q.1 ∧ cK s q.1 = q.2.1 ∧ (c = 8 ∧ k = 4 ∨ cL s q.1 = q.2.2)) ∧
  (∀ a, cK s a = 5 → g + 31 ≤ a ∧ cR s 0 a = some (a + 2) ∧ cR s 1 a = some (a + 1) ∧ cK s (a + 2) = 20 ∧ cK s (a + 1) = 22 ∧ cL s (a + 1) = 4 ∧ tK s 5 (cR s 6 a)) ∧
  (∀ a, cK s a = 24 → ∀ j, tK s 5 (cP s a j)) ∧
  (∀ a, cK s a = 26 → ∀ j, tK s 20 (cP s a j)) ∧
  (∀ j, cP s (g + 30) j = if j < H then some (nd g j) else none) ∧ cL s (g + 30) = H ∧
  (∀ a k, isO g H 5 a → k = 14 ∨ k = 15 → tK s 5 (cR s k a)) ∧
  (∀ k, k = 7 ∨ k = 8 → tK s 5 (cR s k (g + 11))) ∧
  (∀ a, cn s ≤ a → cK s a = 0) ∧
  (∀ a, cK s a = 20 → ∀ i, (cA s a i).toInt8.toInt32 = cA s a i)
/-- what is there keeps its kind and length -/
def Mono (s s' : cS) : Prop := cn s ≤ cn s' ∧ ∀ a, cK s a ≠ 0 → cK s' a = cK s a ∧ cL s' a = cL s a
theorem Mono.rfl' {s : cS} : Mono s s := ⟨Nat.le_refl _, fun _ _ => ⟨rfl, rfl⟩⟩
theorem Mono.trans {s s1 s2 : cS} (h : Mono s s1) (h' : Mono s1 s2) : Mono s s2 := ⟨Nat.le_trans h.1 h'.1, fun a ha => by
  have e := h.2 a ha
  have e' := h'.2 a (by rw [e.1]; exact ha)
  exact ⟨e'.1.trans e.1, e'.2.trans e.2⟩⟩
theorem Mono.tK {s s' : cS} (h : Mono s s') {k : Nat} {x : Option Nat} (t : tK s k x) (hk : k ≠ 0) : tK s' k x := fun a ha => by
  have e := t a ha
  rw [(h.2 a (by rw [e]; exact hk)).1]
  exact e
theorem tK_none {s : cS} {k : Nat} : tK s k none := fun a h => by cases h
theorem tN_none {g H : Nat} : tN g H none := fun a h => by cases h
theorem tK_some {s : cS} {k a : Nat} (h : cK s a = k) : tK s k (some a) := fun b e => by cases e; exact h
theorem tN_some {g H a : Nat} (h : isO g H 5 a) : tN g H (some a) := fun b e => by cases e; exact h
theorem za_of {x : Option Nat} (h : ¬ x = none) : x = some (za x) := by
  cases x with
  | none => exact absurd rfl h
  | some a => rfl
theorem tK.cis {s : cS} {k : Nat} {x : Option Nat} (t : tK s k x) (h : ¬ x = none) : cis s x k := ⟨za_of h, t _ (za_of h)⟩
theorem tN.o {g H : Nat} {x : Option Nat} (t : tN g H x) (h : ¬ x = none) : isO g H 5 (za x) := t _ (za_of h)
section STL
variable {u g H T : Nat} {s : cS}
theorem St.k (h : St u g H T s) {c a : Nat} (t : isO g H c a) : cis s (some a) (c + 1) := ⟨rfl, h.1 c a t⟩
theorem St.kN (h : St u g H T s) {x : Option Nat} (t : tN g H x) (hx : ¬ x = none) : cis s x 6 := ⟨za_of hx, h.1 5 _ (t.o hx)⟩
theorem St.r (h : St u g H T s) {c k a b kd ln : Nat} (t : isO g H c a) (e : rel g T c k a = some (b, kd, ln)) (hu : ¬ (u = 0 ∧ c = 9 ∧ k = 0)) : cR s k a = some b := (h.2.1 c k a t hu _ e).1
theorem St.rk (h : St u g H T s) {c k a b kd ln : Nat} (t : isO g H c a) (e : rel g T c k a = some (b, kd, ln)) (hu : ¬ (u = 0 ∧ c = 9 ∧ k = 0)) : tK s kd (some b) := tK_some (h.2.1 c k a t hu _ e).2.1
theorem St.rl (h : St u g H T s) {c k a b kd ln : Nat} (t : isO g H c a) (e : rel g T c k a = some (b, kd, ln)) (hc : ¬ (c = 8 ∧ k = 4)) (hu : ¬ (u = 0 ∧ c = 9 ∧ k = 0)) : cL s b = ln := (h.2.1 c k a t hu _ e).2.2.resolve_left hc
theorem St.m0 (h : St u g H T s) {x : Option Nat} (t : tK s 5 x) (hx : ¬ x = none) : cR s 0 (za x) = some (za x + 2) := (h.2.2.1 _ (t _ (za_of hx))).2.1
theorem St.m1 (h : St u g H T s) {x : Option Nat} (t : tK s 5 x) (hx : ¬ x = none) : cR s 1 (za x) = some (za x + 1) := (h.2.2.1 _ (t _ (za_of hx))).2.2.1
theorem St.m0k (h : St u g H T s) {x : Option Nat} (t : tK s 5 x) (hx : ¬ x = none) : tK s 20 (some (za x + 2)) := tK_some (h.2.2.1 _ (t _ (za_of hx))).2.2.2.1
theorem St.m1k (h : St u g H T s) {x : Option Nat} (t : tK s 5 x) (hx : ¬ x = none) : tK s 22 (some (za x + 1)) := tK_some (h.2.2.1 _ (t _ (za_of hx))).2.2.2.2.1
theorem St.m1l (h : St u g H T s) {x : Option Nat} (t : tK s 5 x) (hx : ¬ x = none) : cL s (za x + 1) = 4 := (h.2.2.1 _ (t _ (za_of hx))).2.2.2.2.2.1
theorem St.m6k (h : St u g H T s) {x : Option Nat} (t : tK s 5 x) (hx : ¬ x = none) : tK s 5 (cR s 6 (za x)) := (h.2.2.1 _ (t _ (za_of hx))).2.2.2.2.2.2
theorem St.row24 (h : St u g H T s) {a : Nat} (t : tK s 24 (some a)) (j : Nat) : tK s 5 (cP s a j) := h.2.2.2.1 a (t a rfl) j
theorem St.row26 (h : St u g H T s) {a : Nat} (t : tK s 26 (some a)) (j : Nat) : tK s 20 (cP s a j) := h.2.2.2.2.1 a (t a rfl) j
theorem St.row24x (h : St u g H T s) {x : Option Nat} (t : tK s 24 x) (hx : ¬ x = none) (j : Nat) : tK s 5 (cP s (za x) j) := h.2.2.2.1 _ (t _ (za_of hx)) j
theorem St.row25 (h : St u g H T s) (j : Nat) : tN g H (cP s (g + 30) j) := fun a e => by
  rw [h.2.2.2.2.2.1 j] at e
  split at e
  · cases e
    rename_i hj
    exact Or.inr (Or.inr (Or.inr (Or.inr (Or.inl ⟨rfl, j, hj, rfl⟩))))
  · cases e
theorem St.l25 (h : St u g H T s) : cL s (g + 30) = H := h.2.2.2.2.2.2.1
theorem St.lk (h : St u g H T s) {a k : Nat} (t : isO g H 5 a) (hk : k = 14 ∨ k = 15) : tK s 5 (cR s k a) := h.2.2.2.2.2.2.2.1 a k t hk
theorem St.sk (h : St u g H T s) {k : Nat} {a : Nat} (t : isO g H 7 a) (hk : k = 7 ∨ k = 8) : tK s 5 (cR s k a) := by
  have ha : a = g + 11 := by
    rcases t with t | t | t | t | t | t | t | t | t <;> first | exact t.2 | exact absurd t.1 (by decide)
  subst ha
  exact h.2.2.2.2.2.2.2.2.1 k hk
theorem St.lt (h : St u g H T s) {a : Nat} (ha : cK s a ≠ 0) : a < cn s := Nat.not_le.mp fun z => ha (h.2.2.2.2.2.2.2.2.2.1 a z)
/-- objects behind objects -/
theorem o50 {a : Nat} (_ : isO g H 5 a) : isO g H 8 (g + 8) := Or.inr (Or.inr (Or.inr (Or.inr (Or.inr (Or.inr (Or.inr (Or.inl ⟨rfl, rfl⟩)))))))
theorem o52 {a : Nat} (t : isO g H 5 a) : isO g H 3 (a + 1) := by
  rcases t with t | t | t | t | t | t | t | t | t <;> first | exact absurd t.1 (by decide) | skip
  obtain ⟨-, i, hi, rfl⟩ := t
  exact Or.inr (Or.inr (Or.inr (Or.inl ⟨rfl, i, hi, rfl⟩)))
theorem o53 {a : Nat} (t : isO g H 5 a) : isO g H 6 (a + 14) := by
  rcases t with t | t | t | t | t | t | t | t | t <;> first | exact absurd t.1 (by decide) | skip
  obtain ⟨-, i, hi, rfl⟩ := t
  exact Or.inr (Or.inr (Or.inr (Or.inr (Or.inr (Or.inl ⟨rfl, i, hi, rfl⟩)))))
theorem o54 {a : Nat} (t : isO g H 5 a) : isO g H 0 (a + 6) := by
  rcases t with t | t | t | t | t | t | t | t | t <;> first | exact absurd t.1 (by decide) | skip
  obtain ⟨-, i, hi, rfl⟩ := t
  exact Or.inl ⟨rfl, Or.inr (Or.inr ⟨i, hi, rfl⟩)⟩
theorem o10 {a : Nat} (_ : isO g H 1 a) : isO g H 2 (g + 3) := Or.inr (Or.inr (Or.inl ⟨rfl, rfl⟩))
theorem o60 {a : Nat} (_ : isO g H 6 a) : isO g H 7 (g + 11) := Or.inr (Or.inr (Or.inr (Or.inr (Or.inr (Or.inr (Or.inl ⟨rfl, rfl⟩))))))
theorem o85 {a : Nat} (_ : isO g H 8 a) : isO g H 2 (g + 3) := Or.inr (Or.inr (Or.inl ⟨rfl, rfl⟩))
theorem o86 {a : Nat} (_ : isO g H 8 a) : isO g H 7 (g + 11) := Or.inr (Or.inr (Or.inr (Or.inr (Or.inr (Or.inr (Or.inl ⟨rfl, rfl⟩))))))
theorem o87 {a : Nat} (_ : isO g H 8 a) : isO g H 1 (g + 9) := Or.inr (Or.inl ⟨rfl, rfl⟩)
theorem o88 {a : Nat} (_ : isO g H 8 a) : isO g H 0 (g + 18) := Or.inl ⟨rfl, Or.inl rfl⟩
theorem o89 {a : Nat} (_ : isO g H 8 a) : isO g H 0 (g + 23) := Or.inl ⟨rfl, Or.inr (Or.inl rfl)⟩
theorem o90 {a : Nat} (_ : isO g H 9 a) : isO g H 8 (g + 8) := Or.inr (Or.inr (Or.inr (Or.inr (Or.inr (Or.inr (Or.inr (Or.inl ⟨rfl, rfl⟩)))))))
theorem oQL : isO g H 9 g := Or.inr (Or.inr (Or.inr (Or.inr (Or.inr (Or.inr (Or.inr (Or.inr ⟨rfl, rfl⟩)))))))
/-- what is written leaves St -/
theorem St.I (h : St u g H T s) (k a : Nat) (v : Int32) : St u g H T (csI s k a v) := h
theorem St.Ar (h : St u g H T s) (a : Nat) (f : Nat → Int32) (hf : cK s a = 20 → ∀ i, (f i).toInt8.toInt32 = f i) : St u g H T (csArow s a f) := by
  obtain ⟨h1, h2, h3, h4, h5, h6, h7, h8, h9, h10, h11⟩ := h
  refine ⟨h1, h2, h3, h4, h5, h6, h7, h8, h9, h10, fun b hb i => ?_⟩
  show (up1 (cA s) a f b i).toInt8.toInt32 = up1 (cA s) a f b i
  unfold up1
  by_cases e : b = a
  · rw [if_pos e]
    exact hf (by rw [← e]; exact hb) i
  · rw [if_neg e]
    exact h11 b hb i
theorem b88 (x : Int32) : (x.toInt8.toInt32).toInt8.toInt32 = x.toInt8.toInt32 := by simp
theorem St.Ab (h : St u g H T s) (a i : Nat) (x : Int32) : St u g H T (csA s a i (x.toInt8.toInt32)) := h.Ar a _ (fun hb j => by
  show (upd (cA s a) i (x.toInt8.toInt32) j).toInt8.toInt32 = upd (cA s a) i (x.toInt8.toInt32) j
  unfold upd
  by_cases e : j = i
  · rw [if_pos e]; exact b88 x
  · rw [if_neg e]; exact h.2.2.2.2.2.2.2.2.2.2 a hb j)
theorem St.Aw (h : St u g H T s) {k : Nat} (a i : Nat) (x : Int32) (ha : tK s k (some a)) (hk : k ≠ 20) : St u g H T (csA s a i x) := h.Ar a _ (fun hb => absurd ((ha a rfl).symm.trans hb) hk)
theorem St.Ac (h : St u g H T s) (a b sp dp n : Nat) (hb : tK s 20 (some b)) : St u g H T (csArow s a (va_cpy (cA s b) (cA s a) sp dp n)) := h.Ar a _ (fun ha i => by
  unfold va_cpy
  by_cases e : dp ≤ i ∧ i < dp + n
  · rw [if_pos e]; exact h.2.2.2.2.2.2.2.2.2.2 b (hb b rfl) _
  · rw [if_neg e]; exact h.2.2.2.2.2.2.2.2.2.2 a ha i)
theorem St.Ad (h : St u g H T s) {k : Nat} (a : Nat) (f : Nat → Int32) (ha : tK s k (some a)) (hk : k ≠ 20) : St u g H T (csArow s a f) := h.Ar a f (fun hb => absurd ((ha a rfl).symm.trans hb) hk)
theorem St.J (h : St u g H T s) (a i : Nat) (x : Int64) : St u g H T (csJ s a i x) := h
theorem St.Jr (h : St u g H T s) (a : Nat) (f : Nat → Int64) : St u g H T (csJrow s a f) := h
theorem isO_lt {c a : Nat} (t : isO g H c a) : g ≤ a := by
  unfold isO nd at t
  omega
theorem St.P24 (h : St u g H T s) {a i : Nat} {v : Option Nat} (ha : cK s a = 24) (tv : tK s 5 v) : St u g H T (csP s a i v) := by
  obtain ⟨h1, h2, h3, h4, h5, h6, h7, h8, h9, h10, h11⟩ := h
  have e30 : a ≠ g + 30 := fun e => by
    have : cK s (g + 30) = 25 := (h2 8 4 (g + 8) (Or.inr (Or.inr (Or.inr (Or.inr (Or.inr (Or.inr (Or.inr (Or.inl ⟨rfl, rfl⟩)))))))) (by omega) _ rfl).2.1
    rw [e] at ha
    rw [ha] at this
    exact absurd this (by decide)
  refine ⟨h1, h2, h3, fun b hb j => ?_, fun b hb j => ?_, fun j => ?_, h7, h8, h9, h10, h11⟩
  · show tK s 5 (up1 (cP s) a (va_up (cP s a) i v) b j)
    unfold up1 va_up
    by_cases e : b = a
    · rw [if_pos e]
      by_cases e2 : j = i
      · rw [if_pos e2]; exact tv
      · rw [if_neg e2]; exact h4 a ha j
    · rw [if_neg e]; exact h4 b hb j
  · show tK s 20 (up1 (cP s) a (va_up (cP s a) i v) b j)
    unfold up1
    have e : b ≠ a := fun e => by
      rw [e] at hb
      have hb : cK s a = 26 := hb
      rw [ha] at hb
      exact absurd hb (by decide)
    rw [if_neg e]
    exact h5 b hb j
  · show up1 (cP s) a (va_up (cP s a) i v) (g + 30) j = _
    unfold up1
    rw [if_neg (Ne.symm e30)]
    exact h6 j
theorem St.P26 (h : St u g H T s) {a i : Nat} {v : Option Nat} (ha : cK s a = 26) (tv : tK s 20 v) : St u g H T (csP s a i v) := by
  obtain ⟨h1, h2, h3, h4, h5, h6, h7, h8, h9, h10, h11⟩ := h
  have e30 : a ≠ g + 30 := fun e => by
    have : cK s (g + 30) = 25 := (h2 8 4 (g + 8) (Or.inr (Or.inr (Or.inr (Or.inr (Or.inr (Or.inr (Or.inr (Or.inl ⟨rfl, rfl⟩)))))))) (by omega) _ rfl).2.1
    rw [e] at ha
    rw [ha] at this
    exact absurd this (by decide)
  refine ⟨h1, h2, h3, fun b hb j => ?_, fun b hb j => ?_, fun j => ?_, h7, h8, h9, h10, h11⟩
  · show tK s 5 (up1 (cP s) a (va_up (cP s a) i v) b j)
    unfold up1
    have e : b ≠ a := fun e => by
      rw [e] at hb
      have hb : cK s a = 24 := hb
      rw [ha] at hb
      exact absurd hb (by decide)
    rw [if_neg e]
    exact h4 b hb j
  · show tK s 20 (up1 (cP s) a (va_up (cP s a) i v) b j)
    unfold up1 va_up
    by_cases e : b = a
    · rw [if_pos e]
      by_cases e2 : j = i
      · rw [if_pos e2]; exact tv
      · rw [if_neg e2]; exact h5 a ha j
    · rw [if_neg e]; exact h5 b hb j
  · show up1 (cP s) a (va_up (cP s a) i v) (g + 30) j = _
    unfold up1
    rw [if_neg (Ne.symm e30)]
    exact h6 j
theorem rel_k {c k a : Nat} {q : Nat × Nat × Nat} (h : rel g T c k a = some q) (hk : k = 14 ∨ k = 15) : False := by
  rcases hk with rfl | rfl <;> (unfold rel at h; split at h <;> first | (cases h; done) | (rename_i e; omega) | simp_all)
theorem St.R5 (h : St u g H T s) {k a : Nat} {v : Option Nat} (t : isO g H 5 a) (hk : k = 14 ∨ k = 15) (tv : tK s 5 v) : St u g H T (csR s k a v) := by
  obtain ⟨h1, h2, h3, h4, h5, h6, h7, h8, h9, h10, h11⟩ := h
  have ha : cK s a = 6 := h1 5 a t
  have e : ∀ k' b, k' ≠ k ∨ b ≠ a → cR (csR s k a v) k' b = cR s k' b := fun k' b hn => by
    show up2 s.2.2.1 k a v k' b = s.2.2.1 k' b
    unfold up2
    rw [if_neg (fun z => hn.elim (fun q => q z.1) (fun q => q z.2))]
  refine ⟨h1, fun c k' b tb hu q hq => ?_, fun b hb => ?_, h4, h5, h6, h7, fun b k' tb hk' => ?_, fun k' hk' => ?_, h10, h11⟩
  · have hne : k' ≠ k := fun z => by subst z; exact rel_k hq hk
    rw [e k' b (Or.inl hne)]
    exact h2 c k' b tb hu q hq
  · have g3 := h3 b hb
    rw [e 0 b (Or.inl (by omega)), e 1 b (Or.inl (by omega)), e 6 b (Or.inl (by omega))]
    exact g3
  · show tK s 5 (up2 s.2.2.1 k a v k' b)
    unfold up2
    by_cases z : k' = k ∧ b = a
    · rw [if_pos z]; exact tv
    · rw [if_neg z]; exact h8 b k' tb hk'
  · rw [e k' _ (Or.inl (by omega))]
    exact h9 k' hk'
theorem isO7 {a : Nat} (t : isO g H 7 a) : a = g + 11 := by
  rcases t with t | t | t | t | t | t | t | t | t <;> first | exact t.2 | exact absurd t.1 (by decide)
theorem isO_apart {c c' a : Nat} (h : St u g H T s) (t : isO g H c a) (t' : isO g H c' a) : c = c' := by
  have := (h.1 c a t).symm.trans (h.1 c' a t')
  omega
theorem rel_78 {c k a : Nat} {q : Nat × Nat × Nat} (h : rel g T c k a = some q) (hc : c = 7) (hk : k = 7 ∨ k = 8) : False := by
  subst hc
  rcases hk with rfl | rfl <;> cases h
theorem St.R7 (h : St u g H T s) {k a : Nat} {v : Option Nat} (t : isO g H 7 a) (hk : k = 7 ∨ k = 8) (tv : tK s 5 v) : St u g H T (csR s k a v) := by
  have hh := h
  obtain ⟨h1, h2, h3, h4, h5, h6, h7, h8, h9, h10, h11⟩ := h
  have ha : cK s a = 8 := h1 7 a t
  have e : ∀ k' b, k' ≠ k ∨ b ≠ a → cR (csR s k a v) k' b = cR s k' b := fun k' b hn => by
    show up2 s.2.2.1 k a v k' b = s.2.2.1 k' b
    unfold up2
    rw [if_neg (fun z => hn.elim (fun q => q z.1) (fun q => q z.2))]
  refine ⟨h1, fun c k' b tb hu q hq => ?_, fun b hb => ?_, h4, h5, h6, h7, fun b k' tb hk' => ?_, fun k' hk' => ?_, h10, h11⟩
  · have hne : k' ≠ k ∨ b ≠ a := by
      by_cases z : b = a
      · subst z
        have := isO_apart hh tb t
        exact Or.inl fun z => rel_78 hq this (by omega)
      · exact Or.inr z
    rw [e k' b hne]
    exact h2 c k' b tb hu q hq
  · have g3 := h3 b hb
    rw [e 0 b (Or.inl (by omega)), e 1 b (Or.inl (by omega)), e 6 b (Or.inl (by omega))]
    exact g3
  · rw [e k' b (Or.inl (by omega))]
    exact h8 b k' tb hk'
  · show tK s 5 (up2 s.2.2.1 k a v k' (g + 11))
    unfold up2
    by_cases z : k' = k ∧ g + 11 = a
    · rw [if_pos z]; exact tv
    · rw [if_neg z]; exact h9 k' hk'
theorem St.R4 (h : St u g H T s) {a : Nat} {v : Option Nat} (ha : cK s a = 5) (tv : tK s 5 v) : St u g H T (csR s 6 a v) := by
  obtain ⟨h1, h2, h3, h4, h5, h6, h7, h8, h9, h10, h11⟩ := h
  have e : ∀ k' b, k' ≠ 6 ∨ b ≠ a → cR (csR s 6 a v) k' b = cR s k' b := fun k' b hn => by
    show up2 s.2.2.1 6 a v k' b = s.2.2.1 k' b
    unfold up2
    rw [if_neg (fun z => hn.elim (fun q => q z.1) (fun q => q z.2))]
  refine ⟨h1, fun c k' b tb hu q hq => ?_, fun b hb => ?_, h4, h5, h6, h7, fun b k' tb hk' => ?_, fun k' hk' => ?_, h10, h11⟩
  · have hne : b ≠ a := fun z => by
      have := h1 c b tb
      rw [z, ha] at this
      have hc : c = 4 := by omega
      subst hc
      cases hq
    rw [e k' b (Or.inr hne)]
    exact h2 c k' b tb hu q hq
  · have g3 := h3 b hb
    rw [e 0 b (Or.inl (by omega)), e 1 b (Or.inl (by omega))]
    refine ⟨g3.1, g3.2.1, g3.2.2.1, g3.2.2.2.1, g3.2.2.2.2.1, g3.2.2.2.2.2.1, ?_⟩
    show tK s 5 (up2 s.2.2.1 6 a v 6 b)
    unfold up2
    by_cases z : (6 : Nat) = 6 ∧ b = a
    · rw [if_pos z]; exact tv
    · rw [if_neg z]; exact g3.2.2.2.2.2.2
  · rw [e k' b (Or.inl (by omega))]
    exact h8 b k' tb hk'
  · rw [e k' _ (Or.inl (by omega))]
    exact h9 k' hk'
theorem mono_new (h : St u g H T s) (c n : Nat) : Mono s (csNew s c n) := ⟨Nat.le_succ _, fun a ha => by
  have hne : a ≠ cn s := Nat.ne_of_lt (h.lt ha)
  constructor
  · show up1 s.1 (cn s) c a = s.1 a
    unfold up1
    rw [if_neg hne]
  · show up1 s.2.2.2.1 (cn s) n a = s.2.2.2.1 a
    unfold up1
    rw [if_neg hne]⟩
theorem new_R (s : cS) (c n k a : Nat) (ha : a ≠ cn s) : cR (csNew s c n) k a = cR s k a := by
  show up1 (s.2.2.1 k) (cn s) none a = s.2.2.1 k a
  unfold up1
  rw [if_neg ha]
theorem new_K (s : cS) (c n a : Nat) : cK (csNew s c n) a = if a = cn s then c else cK s a := rfl
theorem new_P (s : cS) (c n a : Nat) : cP (csNew s c n) a = if a = cn s then (fun _ => none) else cP s a := rfl
/-- a plain row comes (bytes, ints, longs) -/
theorem St.new (h : St u g H T s) {c n : Nat} (hc : 20 ≤ c ∧ c < 24) : St u g H T (csNew s c n) := by
  have hh := h
  have hm := mono_new h c n
  obtain ⟨h1, h2, h3, h4, h5, h6, h7, h8, h9, h10, h11⟩ := h
  have hb0 : ∀ b k, cK (csNew s c n) b = k → (k < 20 ∨ 24 ≤ k) → cK s b = k := fun b k hb hk => by
    rw [new_K] at hb
    split at hb
    · omega
    · exact hb
  have lt : ∀ a, cK s a ≠ 0 → a ≠ cn s := fun a ha => Nat.ne_of_lt (hh.lt ha)
  refine ⟨fun c' a t => ?_, fun c' k a t hu q hq => ?_, fun a ha => ?_, fun a ha j => ?_, fun a ha j => ?_, fun j => ?_, ?_, fun a k t hk => ?_, fun k hk => ?_, fun a ha => ?_, fun a ha i => ?_⟩
  · have e := h1 c' a t
    rw [(hm.2 a (by omega)).1]
    exact e
  · obtain ⟨q1, q2, q3⟩ := h2 c' k a t hu q hq
    have e := h1 c' a t
    have hq0 : cK s q.1 ≠ 0 := by
      rw [q2]
      unfold rel at hq
      split at hq <;> first | (cases hq; simp; done) | cases hq
    rw [new_R _ _ _ _ _ (lt a (by omega)), (hm.2 q.1 hq0).1, (hm.2 q.1 hq0).2]
    exact ⟨q1, q2, q3⟩
  · have ha := hb0 a 5 ha (by omega)
    obtain ⟨g1, g2, g3, g4, g5, g6, g7⟩ := h3 a ha
    rw [new_R _ _ _ _ _ (lt a (by omega)), new_R _ _ _ _ _ (lt a (by omega)), new_R _ _ _ _ _ (lt a (by omega)), (hm.2 (a + 2) (by omega)).1, (hm.2 (a + 1) (by omega)).1, (hm.2 (a + 1) (by omega)).2]
    exact ⟨g1, g2, g3, g4, g5, g6, hm.tK g7 (by decide)⟩
  · have ha := hb0 a 24 ha (by omega)
    rw [new_P, if_neg (lt a (by omega))]
    exact hm.tK (h4 a ha j) (by decide)
  · have ha := hb0 a 26 ha (by omega)
    rw [new_P, if_neg (lt a (by omega))]
    exact hm.tK (h5 a ha j) (by decide)
  · have e : cK s (g + 30) = 25 := (h2 8 4 (g + 8) (Or.inr (Or.inr (Or.inr (Or.inr (Or.inr (Or.inr (Or.inr (Or.inl ⟨rfl, rfl⟩)))))))) (by omega) _ rfl).2.1
    rw [new_P, if_neg (lt _ (by omega))]
    exact h6 j
  · have e : cK s (g + 30) = 25 := (h2 8 4 (g + 8) (Or.inr (Or.inr (Or.inr (Or.inr (Or.inr (Or.inr (Or.inr (Or.inl ⟨rfl, rfl⟩)))))))) (by omega) _ rfl).2.1
    rw [(hm.2 _ (by omega)).2]
    exact h7
  · have e := h1 5 a t
    rw [new_R _ _ _ _ _ (lt a (by omega))]
    exact hm.tK (h8 a k t hk) (by decide)
  · have e := h1 7 (g + 11) (Or.inr (Or.inr (Or.inr (Or.inr (Or.inr (Or.inr (Or.inl ⟨rfl, rfl⟩)))))))
    rw [new_R _ _ _ _ _ (lt _ (by omega))]
    exact hm.tK (h9 k hk) (by decide)
  · have ha : cn s + 1 ≤ a := ha
    rw [new_K, if_neg (by omega)]
    exact h10 a (by omega)
  · show (up1 (cA s) (cn s) (fun _ => 0) a i).toInt8.toInt32 = up1 (cA s) (cn s) (fun _ => 0) a i
    unfold up1
    by_cases e : a = cn s
    · rw [if_pos e]; decide
    · rw [if_neg e]
      rw [new_K, if_neg e] at ha
      exact h11 a ha i
end STL
/-- what is written leaves kinds -/
theorem Mono.I {s0 s : cS} (h : Mono s0 s) (k a : Nat) (v : Int32) : Mono s0 (csI s k a v) := h
theorem Mono.R {s0 s : cS} (h : Mono s0 s) (k a : Nat) (v : Option Nat) : Mono s0 (csR s k a v) := h
theorem Mono.A {s0 s : cS} (h : Mono s0 s) (a i : Nat) (x : Int32) : Mono s0 (csA s a i x) := h
theorem Mono.Ar {s0 s : cS} (h : Mono s0 s) (a : Nat) (f : Nat → Int32) : Mono s0 (csArow s a f) := h
theorem Mono.J {s0 s : cS} (h : Mono s0 s) (a i : Nat) (x : Int64) : Mono s0 (csJ s a i x) := h
theorem Mono.Jr {s0 s : cS} (h : Mono s0 s) (a : Nat) (f : Nat → Int64) : Mono s0 (csJrow s a f) := h
theorem Mono.P {s0 s : cS} (h : Mono s0 s) (a i : Nat) (v : Option Nat) : Mono s0 (csP s a i v) := h
theorem tK_I {s : cS} {q : Nat} {x : Option Nat} {k a : Nat} {v : Int32} (t : tK s q x) : tK (csI s k a v) q x := t
theorem tK_R {s : cS} {q : Nat} {x : Option Nat} {k a : Nat} {v : Option Nat} (t : tK s q x) : tK (csR s k a v) q x := t
theorem tK_A {s : cS} {q : Nat} {x : Option Nat} {a i : Nat} {v : Int32} (t : tK s q x) : tK (csA s a i v) q x := t
theorem tK_Ar {s : cS} {q : Nat} {x : Option Nat} {a : Nat} {f : Nat → Int32} (t : tK s q x) : tK (csArow s a f) q x := t
theorem tK_J {s : cS} {q : Nat} {x : Option Nat} {a i : Nat} {v : Int64} (t : tK s q x) : tK (csJ s a i v) q x := t
theorem tK_Jr {s : cS} {q : Nat} {x : Option Nat} {a : Nat} {f : Nat → Int64} (t : tK s q x) : tK (csJrow s a f) q x := t
theorem tK_P {s : cS} {q : Nat} {x : Option Nat} {a i : Nat} {v : Option Nat} (t : tK s q x) : tK (csP s a i v) q x := t
theorem vk_cast {i : Int32} {n m : Nat} (e : n = m) (h : vp_in i m) : vp_in i n := e ▸ h
theorem le_cast {a n m : Nat} (e : n = m) (h : a ≤ m) : a ≤ n := e ▸ h
section CST
variable {G : zG} {o : cO} {d : Nat × Nat} {y : zM} {pc : Nat} {l : List (Option Value)} {st : List Value} {s : cS} {Q : Option Value → cS → Prop}
/-- a fixed reference is read -/
theorem c_getS {i ci k : Nat} {C : String} {T : u_T} {N : Nat} {r : Option Nat} {b : Nat} (hF : zF y.1.cls i ci k C T N) (hci : ci < 10) (hk : k < cN ci) (hs : ¬ cfk ci k = 0) (hd : decode y.2.1 pc = .ok (.getfield i, 3)) (hr : cis s r (ci + 1)) (hb : cR s k (za r) = some b) (kk : cX G o d y (pc + 3) l (va_rf (some b) :: st) s Q) : cX G o d y pc l (va_rf r :: st) s Q := c_getR hF hci hk hs hd hr (by rw [hb]; exact kk)
end CST
