section
/-! WHAT IS ASKED AND WHAT COMES, AND WHAT IS WANTED OF IT -/
def wp {R : Type} (o : Prop) (z : R) (P : R → Prop) : Prop := o ∧ P z
theorem wp_ite {c : Prop} [Decidable c] {R : Type} {P : R → Prop} {O1 O2 : Prop} {a b : R} (h1 : c → wp O1 a P) (h2 : ¬ c → wp O2 b P) : wp ((c → O1) ∧ (¬ c → O2)) (if c then a else b) P := wif (P := P) h1 h2
theorem wp_pos {c : Prop} [Decidable c] {R : Type} {P : R → Prop} {O1 O2 : Prop} {a b : R} (hc : c) (h1 : wp O1 a P) : wp ((c → O1) ∧ (¬ c → O2)) (if c then a else b) P := wp_ite (fun _ => h1) (fun n => absurd hc n)
theorem wp_neg {c : Prop} [Decidable c] {R : Type} {P : R → Prop} {O1 O2 : Prop} {a b : R} (hc : ¬ c) (h2 : wp O2 b P) : wp ((c → O1) ∧ (¬ c → O2)) (if c then a else b) P := wp_ite (fun n => absurd n hc) (fun _ => h2)
theorem wp_and {R : Type} {P : R → Prop} {A O : Prop} {z : R} (hA : A) (h : wp O z P) : wp (A ∧ O) z P := ⟨⟨hA, h.1⟩, h.2⟩
theorem wp_ret {R : Type} {P : R → Prop} {z : R} (h : P z) : wp True z P := ⟨trivial, h⟩
theorem wp_fin {R : Type} {P : R → Prop} {o : Prop} {z : R} (ho : o) (h : P z) : wp o z P := ⟨ho, h⟩
theorem wp_mono {R : Type} {P Q : R → Prop} {o : Prop} {z : R} (h : wp o z P) (k : P z → Q z) : wp o z Q := ⟨h.1, k h.2⟩
theorem wp_call {R B : Type} {P : R → Prop} {Q : B → Prop} {o O : Prop} {c : B} {z : R} (h : wp o c Q) (k : Q c → wp O z P) : wp (o ∧ O) z P := ⟨⟨h.1, (k h.2).1⟩, (k h.2).2⟩
theorem wp_seq {R B : Type} {P : R → Prop} {Q : B → Prop} {o : Prop} {z : B} {OA : B → Prop} {A : B → R} (h : wp o z Q) (k : ∀ z, Q z → wp (OA z) (A z) P) : wp (o ∧ OA z) (A z) P := ⟨⟨h.1, (k z h.2).1⟩, (k z h.2).2⟩
theorem wp_loop {σ R : Type} {K : Nat} {P : R → Prop} (I : Nat → σ → Prop) (O : Nat → Nat → σ → Prop) (L : Nat → Nat → σ → R) (hstep : ∀ n j s, j ≤ K → I j s → (∀ s', I (j + 1) s' → j + 1 ≤ K → wp (O n (j + 1) s') (L n (j + 1) s') P) → wp (O (n + 1) j s) (L (n + 1) j s) P) : ∀ j n s, j ≤ K → K - j < n → I j s → wp (O n j s) (L n j s) P := by
  have key : ∀ d j n s, j + d = K → d < n → I j s → wp (O n j s) (L n j s) P := by
    intro d
    induction d with
    | zero =>
      intro j n s hj hn hI
      obtain ⟨n, rfl⟩ := exs (show 0 < n by omega)
      exact hstep n j s (by omega) hI fun s' h' hK => absurd hK (by omega)
    | succ d ih =>
      intro j n s hj hn hI
      obtain ⟨n, rfl⟩ := exs (show 0 < n by omega)
      exact hstep n j s (by omega) hI fun s' h' hK => ih (j + 1) n s' (by omega) (by omega) h'
  intro j n s hj hn hI
  exact key (K - j) j n s (by omega) hn hI
/-! numbers -/
theorem n_or {a b k : Nat} (hb : b < 2 ^ k) (ha : a < 2 ^ 31) : nI (2 ^ k * a) ||| nI b = nI (2 ^ k * a + b) := by
  apply Int32.toBitVec_inj.mp
  apply BitVec.eq_of_toNat_eq
  unfold nI
  simp only [Int32.toBitVec_or, Int32.toBitVec_ofNat', BitVec.toNat_or, BitVec.toNat_ofNat]
  rw [Nat.two_pow_add_eq_or_of_lt hb a, Nat.or_mod_two_pow]
theorem n_shl {a k : Nat} (hk : k < 32) : nI a <<< (nI k &&& 31) = nI (2 ^ k * a) := by
  apply Int32.toBitVec_inj.mp
  apply BitVec.eq_of_toNat_eq
  show ((nI a).toBitVec <<< ((nI k &&& 31).toBitVec.smod 32)).toNat = _
  have e : ((nI k &&& 31).toBitVec.smod 32) = BitVec.ofNat 32 k := by
    rcases (show k = 0 ∨ k = 1 ∨ k = 2 ∨ k = 3 ∨ k = 4 ∨ k = 5 ∨ k = 6 ∨ k = 7 ∨ k = 8 ∨ k = 9 ∨ k = 10 ∨ k = 11 ∨ k = 12 ∨ k = 13 ∨ k = 14 ∨ k = 15 ∨ k = 16 ∨ k = 17 ∨ k = 18 ∨ k = 19 ∨ k = 20 ∨ k = 21 ∨ k = 22 ∨ k = 23 ∨ k = 24 ∨ k = 25 ∨ k = 26 ∨ k = 27 ∨ k = 28 ∨ k = 29 ∨ k = 30 ∨ k = 31 by omega) with rfl | rfl | rfl | rfl | rfl | rfl | rfl | rfl | rfl | rfl | rfl | rfl | rfl | rfl | rfl | rfl | rfl | rfl | rfl | rfl | rfl | rfl | rfl | rfl | rfl | rfl | rfl | rfl | rfl | rfl | rfl | rfl <;> decide
  rw [e]
  show ((BitVec.ofNat 32 a) <<< (BitVec.ofNat 32 k).toNat).toNat = (BitVec.ofNat 32 (2 ^ k * a)).toNat
  rw [BitVec.toNat_shiftLeft, BitVec.toNat_ofNat, BitVec.toNat_ofNat, BitVec.toNat_ofNat, Nat.mod_eq_of_lt (show k < 2 ^ 32 by omega), Nat.shiftLeft_eq, Nat.mul_comm, Nat.mul_mod, Nat.mod_mod, ← Nat.mul_mod]
theorem n_two {a b : Nat} (ha : a < 256) (hb : b < 256) : (nI a <<< (nI 8 &&& 31)) ||| nI b = nI (256 * a + b) := by
  rw [n_shl (by decide)]
  exact n_or (k := 8) (by omega) (by omega)
theorem and255 (x : Int32) : ∃ n, n < 256 ∧ x &&& nI 255 = nI n := by
  refine ⟨(x &&& nI 255).toBitVec.toNat, ?_, ?_⟩
  · rw [Int32.toBitVec_and, BitVec.toNat_and]
    exact Nat.lt_of_le_of_lt Nat.and_le_right (by decide)
  · apply Int32.toBitVec_inj.mp
    apply BitVec.eq_of_toNat_eq
    show _ = (BitVec.ofNat 32 _).toNat
    rw [BitVec.toNat_ofNat, Nat.mod_eq_of_lt]
    exact BitVec.isLt _
/-- the byte that an int ends with -/
def nb (x : Int32) : Nat := (x &&& nI 255).toNatClampNeg
theorem nb_spec (x : Int32) : nb x < 256 ∧ x &&& nI 255 = nI (nb x) := by
  obtain ⟨n, h1, h2⟩ := and255 x
  have e : nb x = n := by
    unfold nb
    rw [h2]
    exact n_clamp (by omega)
  rw [e]
  exact ⟨h1, h2⟩
theorem nb_n {a : Nat} : nb (nI a) = a % 256 := by
  unfold nb
  rw [n_and]
  exact n_clamp (by omega)
/-- a number that may be -1 -/
def iI (x : Int) : Int32 := Int32.ofInt x
theorem iI_n (a : Nat) : iI (a : Int) = nI a := Int32.ofInt_eq_ofNat
theorem iI_add (x y : Int) : iI x + iI y = iI (x + y) := (Int32.ofInt_add x y).symm
theorem iI_toInt {x : Int} (h1 : -2147483648 ≤ x) (h2 : x < 2147483648) : (iI x).toInt = x := Int32.toInt_ofInt_of_le h1 h2
theorem iI_eq {x y : Int} (h1 : -2147483648 ≤ x) (h2 : x < 2147483648) (h3 : -2147483648 ≤ y) (h4 : y < 2147483648) : iI x = iI y ↔ x = y := by
  constructor
  · intro h
    have := congrArg Int32.toInt h
    rwa [iI_toInt h1 h2, iI_toInt h3 h4] at this
  · intro h
    rw [h]
theorem iI_le {x y : Int} (h1 : -2147483648 ≤ x) (h2 : x < 2147483648) (h3 : -2147483648 ≤ y) (h4 : y < 2147483648) : iI x ≤ iI y ↔ x ≤ y := by
  rw [Int32.le_iff_toInt_le, iI_toInt h1 h2, iI_toInt h3 h4]
theorem iI_lt {x y : Int} (h1 : -2147483648 ≤ x) (h2 : x < 2147483648) (h3 : -2147483648 ≤ y) (h4 : y < 2147483648) : iI x < iI y ↔ x < y := by
  rw [Int32.lt_iff_toInt_lt, iI_toInt h1 h2, iI_toInt h3 h4]
theorem iI_m1 : iI (-1) = -1 := rfl
end
