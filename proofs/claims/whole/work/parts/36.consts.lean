/-! ONE RULE FOR LOOPS (what is asked, and what comes); numbers as simp takes them; THE REFERENCE'S CONSTANTS -/
theorem wloop {σ : Type} {K : Nat} {P : Nat → σ → Prop} (Q : Nat → Int32 → σ → Prop) (hend : ∀ n S, P K S → Q (n + 1) (nI K) S) (hstep : ∀ n j S, j < K → P j S → (∀ S', P (j + 1) S' → Q n (nI (j + 1)) S') → Q (n + 1) (nI j) S) : ∀ j n S, j ≤ K → K - j < n → P j S → Q n (nI j) S := by
  have key : ∀ d j n S, j + d = K → d < n → P j S → Q n (nI j) S := by
    intro d
    induction d with
    | zero =>
      intro j n S hj hn hP
      obtain ⟨n, rfl⟩ := exs (show 0 < n by omega)
      have e : j = K := by omega
      subst e
      exact hend n S hP
    | succ d ih =>
      intro j n S hj hn hP
      obtain ⟨n, rfl⟩ := exs (show 0 < n by omega)
      exact hstep n j S (by omega) hP fun S' h' => ih (j + 1) n S' (by omega) (by omega) h'
  intro j n S hj hn hP
  exact key (K - j) j n S (by omega) hn hP
theorem n_clamp {a : Nat} (h : a < 2147483648) : (nI a).toNatClampNeg = a := nI_clamp (by omega)
theorem n_in {a L : Nat} (h : a < 2147483648) : vp_in (nI a) L ↔ a < L := by
  unfold vp_in
  rw [nI_clamp (by omega)]
  constructor
  · intro z
    omega
  · intro z c
    rcases c with c | c
    · exact nI_pos (by omega) c
    · omega
theorem n_le' {a b : Nat} (ha : a < 2147483648) (hb : b < 2147483648) : nI a ≤ nI b ↔ a ≤ b := n_le (by omega) (by omega)
theorem n_lt' {a b : Nat} (ha : a < 2147483648) (hb : b < 2147483648) : nI a < nI b ↔ a < b := n_lt (by omega) (by omega)
theorem n_eq' {a b : Nat} (ha : a < 2147483648) (hb : b < 2147483648) : nI a = nI b ↔ a = b := n_eq (by omega) (by omega)
theorem n_div' {a b : Nat} (ha : a < 2147483648) (hb : b < 2147483648) : nI a / nI b = nI (a / b) := n_div (by omega) (by omega)
theorem n_mod' {a b : Nat} (ha : a < 2147483648) (hb : b < 2147483648) : nI a - nI a / nI b * nI b = nI (a % b) := n_mod (by omega) (by omega)
theorem n_lt0 {a : Nat} (ha : a < 2147483648) : ¬ nI a < 0 := nI_pos (by omega)
theorem n_eq0 {a : Nat} (ha : a < 2147483648) : nI a = 0 ↔ a = 0 := by rw [show (0 : Int32) = nI 0 from rfl]; exact n_eq' ha (by omega)
theorem n_le0 {a : Nat} (ha : a < 2147483648) : nI a ≤ 0 ↔ a = 0 := by rw [show (0 : Int32) = nI 0 from rfl, n_le' ha (by omega)]; omega
theorem n_0le {a : Nat} (ha : a < 2147483648) : 0 ≤ nI a := by rw [show (0 : Int32) = nI 0 from rfl, n_le' (by omega) ha]; omega
theorem n_0lt {a : Nat} (ha : a < 2147483648) : 0 < nI a ↔ 0 < a := by rw [show (0 : Int32) = nI 0 from rfl, n_lt' (by omega) ha]
/-- the root of p, bit by bit -/
def rtS : rS := (fun _ => 0, fun _ _ => 0, fun _ _ => 0)
def rtV (p w : Int32) : Nat → Int64 → Int64
  | 0, r => r
  | b + 1, r => if f_isAbove 0 rtS (r ||| ((1 : Int64) <<< (Int32.toInt64 (nI b) &&& 63))) p w = 0 then rtV p w b (r ||| ((1 : Int64) <<< (Int32.toInt64 (nI b) &&& 63))) else rtV p w b r
theorem above_o (N : Nat) (S : rS) (t : Int64) (p w : Int32) : o_isAbove N S t p w := by
  have a0 : O_isAbove_265 N S := rfl
  have a1 : O_isAbove_261 N S := rfl
  have b0 : O_isAbove_122 N S := rfl
  have b1 : O_isAbove_118 N S := rfl
  have c : ∀ x2 x4 x14 x22 x24 s0, O_isAbove_193 N x2 x4 x14 x22 x24 s0 S := fun x2 x4 x14 x22 x24 s0 => ⟨fun _ => a1, fun _ => ⟨fun _ => ⟨fun _ => a1, fun _ => ⟨fun _ => a1, fun _ => ⟨fun _ => a0, fun _ => a1⟩⟩⟩, fun _ => a0⟩⟩
  exact ⟨fun _ => ⟨fun _ => b1, fun _ => ⟨fun _ => ⟨fun _ => b1, fun _ => ⟨fun _ => b0, fun _ => b1⟩⟩, fun _ => b0⟩⟩, fun _ => c _ _ _ _ _ _⟩
theorem root_l (N : Nat) (S : rS) (p w : Int32) : ∀ (b n : Nat) (r : Int64), b ≤ 36 → b < n → OL_root_6 N n p w r (nI b + (-1)) S ∧ (L_root_6 N n p w r (nI b + (-1)) S).2.1 = rtV p w b r := by
  intro b
  induction b with
  | zero =>
    intro n r hb hn
    obtain ⟨n, rfl⟩ := exs (show 0 < n by omega)
    exact ⟨⟨fun _ => trivial, fun c => absurd (by decide) c⟩, rfl⟩
  | succ b ih =>
    intro n r hb hn
    obtain ⟨n, rfl⟩ := exs (show 0 < n by omega)
    have e : nI (b + 1) + (-1) = nI b := n_neg (b + 1) (by omega)
    rw [e]
    refine wif (P := fun z : Nat × Int64 × Unit => z.2.1 = rtV p w (b + 1) r) (fun c => absurd c (n_lt0 (by omega))) (fun _ => ?_)
    refine wand (above_o _ _ _ _ _) ?_
    show _ ∧ _ = if _ then _ else _
    refine wif (P := fun z : Nat × Int64 × Unit => z.2.1 = if f_isAbove 0 rtS (r ||| ((1 : Int64) <<< (Int32.toInt64 (nI b) &&& 63))) p w = 0 then rtV p w b (r ||| ((1 : Int64) <<< (Int32.toInt64 (nI b) &&& 63))) else rtV p w b r) (fun c => ?_) (fun c => ?_)
    · rw [if_pos (show f_isAbove 0 rtS (r ||| ((1 : Int64) <<< (Int32.toInt64 (nI b) &&& 63))) p w = 0 from c)]
      exact ih n _ (by omega) (by omega)
    · rw [if_neg (show ¬ f_isAbove 0 rtS (r ||| ((1 : Int64) <<< (Int32.toInt64 (nI b) &&& 63))) p w = 0 from c)]
      exact ih n _ (by omega) (by omega)
theorem root1_ok {N : Nat} (S : rS) (p w : Int32) (hN : 100 ≤ N) : o_root N S p w ∧ f_root N S p w = Int64.toInt32 (rtV p w 36 0) := by
  obtain ⟨a, b⟩ := root_l N S p w 36 N 0 (by omega) (by omega)
  exact ⟨⟨a, trivial⟩, congrArg Int64.toInt32 b⟩
/-- trial division -/
def trl (p : Nat) : Nat → Nat → Nat → Nat
  | 0, _, x => x
  | f + 1, q, x => if p < q * q then x else trl p f (q + 1) (if x = 0 then 0 else if p % q = 0 then 0 else 1)
def isP (p : Nat) : Nat := trl p 18 2 1
def fnd : Nat → Nat
  | 0 => 0
  | p + 1 => if 2 ≤ p ∧ isP p = 1 then fnd p + 1 else fnd p
theorem tab_ok : ∀ p, p < 312 → 2 ≤ p → fnd p < 64 ∧ isP p < 2 ∧ (isP p = 1 → Int64.toInt32 (rtV (nI p) (nI 3) 36 0) = shaK (fnd p) ∧ (fnd p < 8 → Int64.toInt32 (rtV (nI p) (nI 2) 36 0) = shaI (fnd p))) := by decide +kernel
theorem tab_end : fnd 312 = 64 ∧ fnd 2 = 0 := by decide +kernel
theorem trl_ok {N p : Nat} {x1 : Int32} {S : rS} (hp : p < 312) : ∀ (f n q x : Nat), 2 ≤ q → q + f = 20 → x < 2 → f < n → OL_primes_15 N n x1 (nI p) (nI x) (nI q) S ∧ L_primes_15 N n x1 (nI p) (nI x) (nI q) S = (0, x1, nI p, nI (trl p f q x), S) := by
  intro f
  induction f with
  | zero =>
    intro n q x h2 hq hx hn
    obtain ⟨n, rfl⟩ := exs (show 0 < n by omega)
    have e : q = 20 := by omega
    subst e
    exact wif (P := fun z => z = (0, x1, nI p, nI (trl p 0 20 x), S)) (fun _ => ⟨trivial, rfl⟩) (fun c => absurd (by rw [n_mul, n_lt' (by omega) (by omega)]; omega) c)
  | succ f ih =>
    intro n q x h2 hq hx hn
    obtain ⟨n, rfl⟩ := exs (show 0 < n by omega)
    have hqq : q * q < 400 := Nat.lt_of_le_of_lt (Nat.mul_le_mul (show q ≤ 19 by omega) (show q ≤ 19 by omega)) (by decide)
    have et : trl p (f + 1) q x = if p < q * q then x else trl p f (q + 1) (if x = 0 then 0 else if p % q = 0 then 0 else 1) := rfl
    refine wif (P := fun z => z = (0, x1, nI p, nI (trl p (f + 1) q x), S)) (fun c => ⟨trivial, ?_⟩) (fun c => ?_)
    · rw [n_mul, n_lt' (by omega) (by omega)] at c
      rw [et, if_pos c]
    · rw [n_mul, n_lt' (by omega) (by omega)] at c
      rw [et, if_neg c]
      refine wif (P := fun z => z = (0, x1, nI p, nI (trl p f (q + 1) (if x = 0 then 0 else if p % q = 0 then 0 else 1)), S)) (fun c1 => ?_) (fun c1 => ?_)
      · rw [n_eq0 (by omega)] at c1
        rw [if_pos c1]
        show OL_primes_15 N n x1 (nI p) (nI 0) (nI q + nI 1) S ∧ L_primes_15 N n x1 (nI p) (nI 0) (nI q + nI 1) S = _
        rw [n_add]
        exact ih n (q + 1) 0 (by omega) (by omega) (by omega) (by omega)
      · rw [n_eq0 (by omega)] at c1
        rw [if_neg c1]
        refine wand (by rw [n_eq0 (by omega)]; omega) ?_
        refine wif (P := fun z => z = (0, x1, nI p, nI (trl p f (q + 1) (if p % q = 0 then 0 else 1)), S)) (fun c2 => ?_) (fun c2 => ?_)
        · have hm : p % q < q := Nat.mod_lt _ (by omega)
          rw [n_mod' (by omega) (by omega), n_eq0 (by omega)] at c2
          rw [if_pos c2]
          show OL_primes_15 N n x1 (nI p) (nI 0) (nI q + nI 1) S ∧ L_primes_15 N n x1 (nI p) (nI 0) (nI q + nI 1) S = _
          rw [n_add]
          exact ih n (q + 1) 0 (by omega) (by omega) (by omega) (by omega)
        · have hm : p % q < q := Nat.mod_lt _ (by omega)
          rw [n_mod' (by omega) (by omega), n_eq0 (by omega)] at c2
          rw [if_neg c2]
          show OL_primes_15 N n x1 (nI p) (nI 1) (nI q + nI 1) S ∧ L_primes_15 N n x1 (nI p) (nI 1) (nI q + nI 1) S = _
          rw [n_add]
          exact ih n (q + 1) 1 (by omega) (by omega) (by omega) (by omega)
theorem primes_l {N : Nat} {S0 : rS} (hN : 400 ≤ N) : ∀ (d n p : Nat) (S : rS), p + d = 312 → 2 ≤ p → d < n → rfr [10, 11] S0 S → (∀ t, t < fnd p → S.2.1 10 t = shaK t) → (∀ t, t < fnd p → t < 8 → S.2.1 11 t = shaI t) → OL_primes_4 N n (nI (fnd p)) (nI p) S ∧ ∃ S', L_primes_4 N n (nI (fnd p)) (nI p) S = (0, S') ∧ rfr [10, 11] S0 S' ∧ rK S' := by
  intro d
  induction d with
  | zero =>
    intro n p S hp h2 hn hf h10 h11
    obtain ⟨n, rfl⟩ := exs (show 0 < n by omega)
    have e : p = 312 := by omega
    subst e
    rw [tab_end.1] at h10 h11 ⊢
    exact ⟨⟨fun _ => trivial, fun c => absurd (by decide) c⟩, S, rfl, hf, h10, fun t ht => h11 t (by omega) ht⟩
  | succ d ih =>
    intro n p S hp h2 hn hf h10 h11
    obtain ⟨n, rfl⟩ := exs (show 0 < n by omega)
    obtain ⟨t1, t2, t3⟩ := tab_ok p (by omega) h2
    have ef : fnd (p + 1) = if 2 ≤ p ∧ isP p = 1 then fnd p + 1 else fnd p := rfl
    obtain ⟨u1, u2⟩ := trl_ok (N := N) (p := p) (x1 := nI (fnd p)) (S := S) (by omega) 18 N 2 1 (by omega) (by omega) (by omega) (by omega)
    refine wif (P := fun z => ∃ S', z = (0, S') ∧ rfr [10, 11] S0 S' ∧ rK S') (fun c => absurd c (nI_ge t1 (by omega))) (fun _ => ?_)
    refine wand u1 ?_
    rw [u2]
    show O_primes_47 N _ (nI (fnd p)) (nI p) (nI (isP p)) S ∧ ∃ S', F_primes_47 N _ (nI (fnd p)) (nI p) (nI (isP p)) S = (0, S') ∧ _
    refine wif (P := fun z => ∃ S', z = (0, S') ∧ rfr [10, 11] S0 S' ∧ rK S') (fun c => ?_) (fun c => ?_)
    · rw [n_eq0 (by omega)] at c
      show OL_primes_4 N n (nI (fnd p)) (nI p + nI 1) S ∧ ∃ S', L_primes_4 N n (nI (fnd p)) (nI p + nI 1) S = (0, S') ∧ _
      rw [if_neg (by omega)] at ef
      rw [n_add, ← ef]
      rw [← ef] at h10 h11
      exact ih n (p + 1) S (by omega) (by omega) (by omega) hf h10 h11
    · rw [n_eq0 (by omega)] at c
      rw [if_pos ⟨h2, by omega⟩] at ef
      obtain ⟨v1, v2⟩ := t3 (by omega)
      have fin : ∀ S2 : rS, rfr [10, 11] S0 S2 → S2.2.1 10 = S.2.1 10 → (∀ t, t < fnd p + 1 → t < 8 → S2.2.1 11 t = shaI t) → O_primes_71 N (OL_primes_4 N n) (nI (fnd p)) (nI p) S2 ∧ ∃ S', F_primes_71 N (L_primes_4 N n) (nI (fnd p)) (nI p) S2 = (0, S') ∧ rfr [10, 11] S0 S' ∧ rK S' := by
        intro S2 f2 e10 e11
        obtain ⟨r1, r2⟩ := root1_ok (N := N) S2 (nI p) (nI 3) (by omega)
        refine wand (P := fun z => ∃ S', z = (0, S') ∧ rfr [10, 11] S0 S' ∧ rK S') r1 (wand ((n_in (by omega)).2 t1) ?_)
        show OL_primes_4 N n (nI (fnd p) + nI 1) (nI p + nI 1) _ ∧ ∃ S', L_primes_4 N n (nI (fnd p) + nI 1) (nI p + nI 1) _ = (0, S') ∧ _
        rw [n_add, n_add, ← ef, r2, n_clamp (by omega), v1, rsA_W]
        refine ih n (p + 1) _ (by omega) (by omega) (by omega) (f2.trans ((rfr_W _ _ _).mono (by decide))) (fun t ht => ?_) (fun t ht h8 => ?_)
        · rw [W_same]
          by_cases e : t = fnd p
          · rw [e, upd_same]
          · rw [upd_other _ _ e, e10]
            exact h10 t (by omega)
        · rw [W_other _ _ (by decide)]
          exact e11 t (by omega) h8
      refine wif (P := fun z => ∃ S', z = (0, S') ∧ rfr [10, 11] S0 S' ∧ rK S') (fun c8 => ?_) (fun c8 => ?_)
      · rw [n_le' (by omega) (by omega)] at c8
        exact fin S hf rfl (fun t ht h8 => h11 t (by omega) h8)
      · rw [n_le' (by omega) (by omega)] at c8
        obtain ⟨r1, r2⟩ := root1_ok (N := N) S (nI p) (nI 2) (by omega)
        refine wand r1 (wand ((n_in (by omega)).2 (by omega)) ?_)
        rw [r2, n_clamp (by omega), v2 (by omega), rsA_W]
        refine fin _ (hf.trans ((rfr_W _ _ _).mono (by decide))) (W_other _ _ (by decide)) (fun t ht h8 => ?_)
        rw [W_same]
        by_cases e : t = fnd p
        · rw [e, upd_same]
        · rw [upd_other _ _ e]
          exact h11 t (by omega) h8
theorem primes_ok {N : Nat} {S : rS} (hN : 400 ≤ N) : o_primes N S ∧ rfr [10, 11] S (f_primes N S) ∧ rK (f_primes N S) := by
  obtain ⟨a, S', b, c, d⟩ := primes_l (N := N) (S0 := S) hN 310 N 2 S rfl (by omega) (by omega) rfr.refl (fun t ht => by rw [tab_end.2] at ht; omega) (fun t ht => by rw [tab_end.2] at ht; omega)
  rw [tab_end.2] at a b
  have ef : f_primes N S = S' := by
    show (L_primes_4 N N (nI 0) (nI 2) S).2 = S'
    rw [b]
  rw [ef]
  exact ⟨⟨a, trivial⟩, c, d⟩
