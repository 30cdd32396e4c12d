/-! NUMBERS AND STATES, FOR WHAT IS PURE: every index is nI of a natural number; a row set as a whole (rsW, rsM). -/
theorem n_add (a b : Nat) : nI a + nI b = nI (a + b) := by unfold nI; rw [← Int32.ofNat_add]
theorem n_mul (a b : Nat) : nI a * nI b = nI (a * b) := by unfold nI; rw [← Int32.ofNat_mul]
theorem n_sub {a b : Nat} (h : b ≤ a) : nI a - nI b = nI (a - b) := by
  have e : nI a = nI (a - b) + nI b := by rw [n_add, Nat.sub_add_cancel h]
  rw [e, Int32.add_sub_cancel]
theorem n_inj {a b : Nat} (ha : a < 2 ^ 31) (hb : b < 2 ^ 31) (h : nI a = nI b) : a = b := by
  have e := congrArg Int32.toInt h
  rw [nI_toInt ha, nI_toInt hb] at e
  omega
theorem n_eq {a b : Nat} (ha : a < 2 ^ 31) (hb : b < 2 ^ 31) : nI a = nI b ↔ a = b := ⟨n_inj ha hb, fun e => by rw [e]⟩
theorem n_le {a b : Nat} (ha : a < 2 ^ 31) (hb : b < 2 ^ 31) : nI a ≤ nI b ↔ a ≤ b := by
  rw [Int32.le_iff_toInt_le, nI_toInt ha, nI_toInt hb]; omega
theorem n_lt {a b : Nat} (ha : a < 2 ^ 31) (hb : b < 2 ^ 31) : nI a < nI b ↔ a < b := by
  rw [Int32.lt_iff_toInt_lt, nI_toInt ha, nI_toInt hb]; omega
theorem n_div {a b : Nat} (ha : a < 2 ^ 31) (hb : b < 2 ^ 31) : nI a / nI b = nI (a / b) := by
  have hd : a / b < 2 ^ 31 := Nat.lt_of_le_of_lt (Nat.div_le_self a b) ha
  apply Int32.toInt_inj.mp
  rw [nI_toInt hd, Int32.toInt_div, nI_toInt ha, nI_toInt hb]
  have e : (a : Int).tdiv (b : Int) = ((a / b : Nat) : Int) := by
    rw [Int.tdiv_eq_ediv_of_nonneg (by omega)]
    exact (Int.natCast_ediv a b).symm
  rw [e]
  generalize a / b = q at hd
  exact Int.bmod_eq_of_le (by omega) (by omega)
theorem n_mod {a b : Nat} (ha : a < 2 ^ 31) (hb : b < 2 ^ 31) : nI a - nI a / nI b * nI b = nI (a % b) := by
  rw [n_div ha hb, n_mul, n_sub (Nat.div_mul_le_self a b)]
  congr 1
  have := Nat.div_add_mod a b
  have e : a / b * b = b * (a / b) := Nat.mul_comm _ _
  omega
theorem n_zero : nI 0 = 0 := rfl
theorem n_neg (k : Nat) (h : 0 < k) : nI k + (-1) = nI (k - 1) := by
  have e : nI k = nI (k - 1) + nI 1 := by rw [n_add, Nat.sub_add_cancel h]
  rw [e, Int32.add_assoc, show nI 1 + (-1 : Int32) = 0 by decide, Int32.add_zero]
/-- a row of the reference set as a whole -/
def rsW (S : rS) (k : Nat) (f : Nat → Int32) : rS := (S.1, fun j => if j = k then f else S.2.1 j, S.2.2)
def rsM (S : rS) (k : Nat) (f : Nat → Int64) : rS := (S.1, S.2.1, fun j => if j = k then f else S.2.2 j)
theorem rsA_W (S : rS) (k i : Nat) (x : Int32) : rsA S k i x = rsW S k (upd (S.2.1 k) i x) := by
  unfold rsA rsW
  congr 2
  funext j
  by_cases h : j = k
  · subst h; simp
  · simp [h]
theorem rsL_M (S : rS) (k i : Nat) (x : Int64) : rsL S k i x = rsM S k (vp_updL (S.2.2 k) i x) := by
  unfold rsL rsM
  congr 3
  funext j
  by_cases h : j = k
  · subst h; simp
  · simp [h]
theorem rsW_W (S : rS) (k : Nat) (f h : Nat → Int32) : rsW (rsW S k f) k h = rsW S k h := by
  unfold rsW
  congr 2
  funext j
  by_cases e : j = k <;> simp [e]
theorem rsW_self (S : rS) (k : Nat) : rsW S k (S.2.1 k) = S := by
  unfold rsW
  have e : (fun j => if j = k then S.2.1 k else S.2.1 j) = S.2.1 := by
    funext j
    by_cases e : j = k <;> simp [e]
  rw [e]
theorem rsW_comm (S : rS) {k j : Nat} (h : k ≠ j) (f f' : Nat → Int32) : rsW (rsW S k f) j f' = rsW (rsW S j f') k f := by
  unfold rsW
  congr 2
  funext q
  by_cases e : q = k
  · subst e; simp [h]
  · by_cases e2 : q = j <;> simp [e, e2, Ne.symm h]
theorem W_same (S : rS) (k : Nat) (f : Nat → Int32) : (rsW S k f).2.1 k = f := by simp [rsW]
theorem W_other (S : rS) {k j : Nat} (f : Nat → Int32) (h : j ≠ k) : (rsW S k f).2.1 j = S.2.1 j := by simp [rsW, h]
theorem W_I (S : rS) (k j : Nat) (f : Nat → Int32) : (rsW S k f).1 j = S.1 j := rfl
theorem W_L (S : rS) (k : Nat) (f : Nat → Int32) : (rsW S k f).2.2 = S.2.2 := rfl
theorem I_same (S : rS) (k : Nat) (v : Int32) : (rsI S k v).1 k = v := by simp [rsI, upd]
theorem I_other (S : rS) {k j : Nat} (v : Int32) (h : j ≠ k) : (rsI S k v).1 j = S.1 j := by simp [rsI, upd, h]
theorem I_A (S : rS) (k : Nat) (v : Int32) : (rsI S k v).2 = S.2 := rfl
theorem upd_same (f : Nat → Int32) (k : Nat) (x : Int32) : upd f k x k = x := by simp [upd]
theorem upd_other (f : Nat → Int32) {k j : Nat} (x : Int32) (h : j ≠ k) : upd f k x j = f j := by simp [upd, h]
/-- choices together: what is asked and what comes -/
theorem wif {c : Prop} [Decidable c] {R : Type} {P : R → Prop} {O1 O2 : Prop} {a b : R} (h1 : c → O1 ∧ P a) (h2 : ¬ c → O2 ∧ P b) : ((c → O1) ∧ (¬ c → O2)) ∧ P (if c then a else b) := by
  by_cases h : c
  · rw [if_pos h]
    exact ⟨⟨fun _ => (h1 h).1, fun n => absurd h n⟩, (h1 h).2⟩
  · rw [if_neg h]
    exact ⟨⟨fun n => absurd n h, fun _ => (h2 h).1⟩, (h2 h).2⟩
theorem wand {A O : Prop} {R : Type} {P : R → Prop} {a : R} (hA : A) (h : O ∧ P a) : (A ∧ O) ∧ P a := ⟨⟨hA, h.1⟩, h.2⟩
/-! SHA-256 -/
abbrev V8 : Type := Int32 × Int32 × Int32 × Int32 × Int32 × Int32 × Int32 × Int32
def v8 (f : Nat → Int32) : V8 := (f 0, f 1, f 2, f 3, f 4, f 5, f 6, f 7)
def rot (x : Int32) (n : Nat) : Int32 := ((Int32.toUInt32 x >>> (Int32.toUInt32 (nI n) &&& Int32.toUInt32 31)).toInt32) ||| (x <<< ((nI 32 - nI n) &&& 31))
def shr (x : Int32) (n : Nat) : Int32 := (Int32.toUInt32 x >>> (Int32.toUInt32 (nI n) &&& Int32.toUInt32 31)).toInt32
def wrd (b : Nat → Int32) (t : Nat) : Int32 := (((b (4 * t) <<< (nI 24 &&& 31)) ||| (b (4 * t + 1) <<< (nI 16 &&& 31))) ||| (b (4 * t + 2) <<< (nI 8 &&& 31))) ||| b (4 * t + 3)
def sch (b : Nat → Int32) (t : Nat) : Int32 := if h : t < 16 then wrd b t else
  ((sch b (t - 16) + ((rot (sch b (t - 15)) 7 ^^^ rot (sch b (t - 15)) 18) ^^^ shr (sch b (t - 15)) 3)) + sch b (t - 7)) + ((rot (sch b (t - 2)) 17 ^^^ rot (sch b (t - 2)) 19) ^^^ shr (sch b (t - 2)) 10)
termination_by t
theorem sch_lo (b : Nat → Int32) {t : Nat} (h : t < 16) : sch b t = wrd b t := by rw [sch, dif_pos h]
theorem sch_hi (b : Nat → Int32) {t : Nat} (h : ¬ t < 16) : sch b t = ((sch b (t - 16) + ((rot (sch b (t - 15)) 7 ^^^ rot (sch b (t - 15)) 18) ^^^ shr (sch b (t - 15)) 3)) + sch b (t - 7)) + ((rot (sch b (t - 2)) 17 ^^^ rot (sch b (t - 2)) 19) ^^^ shr (sch b (t - 2)) 10) := by rw [sch, dif_neg h]
def rdT (k w : Int32) (e f g h : Int32) : Int32 := (((h + ((rot e 6 ^^^ rot e 11) ^^^ rot e 25)) + ((e &&& f) ^^^ ((e ^^^ (-1)) &&& g))) + k) + w
def rdU (a b c : Int32) : Int32 := ((rot a 2 ^^^ rot a 13) ^^^ rot a 22) + (((a &&& b) ^^^ (a &&& c)) ^^^ (b &&& c))
def rd (k w : Int32) (v : V8) : V8 := match v with
  | (a, b, c, d, e, f, g, h) => (rdT k w e f g h + rdU a b c, a, b, c, d + rdT k w e f g h, e, f, g)
def rds (K W : Nat → Int32) (v : V8) : Nat → V8
  | 0 => v
  | n + 1 => rd (K n) (W n) (rds K W v n)
def va8 (x y : V8) : V8 := match x, y with
  | (a, b, c, d, e, f, g, h), (a', b', c', d', e', f', g', h') => (a + a', b + b', c + c', d + d', e + e', f + f', g + g', h + h')
def cmp8 (K : Nat → Int32) (b : Nat → Int32) (v : V8) : V8 := va8 v (rds K (sch b) v 64)
def shaK (t : Nat) : Int32 := zADDED.getD t 0
def shaI (t : Nat) : Int32 := zFIRST.getD t 0
/-- the padded text of f's first n bytes; its blocks; the sums -/
def padN (n : Nat) : Nat := (n + 72) / 64
def pad (f : Nat → Int32) (n i : Nat) : Int32 := if i < n then f i else if i = n then nI 128 else if i = 64 * padN n - 2 then nI (8 * n / 256) else if i = 64 * padN n - 1 then nI (8 * n % 256) else nI 0
def shaS (f : Nat → Int32) (n : Nat) : Nat → V8
  | 0 => v8 shaI
  | j + 1 => cmp8 shaK (fun i => pad f n (64 * j + i)) (shaS f n j)
def sha (f : Nat → Int32) (n : Nat) : V8 := shaS f n (padN n)
theorem wrd_congr {b b' : Nat → Int32} {t : Nat} (h : ∀ i, 4 * t ≤ i → i < 4 * t + 4 → b i = b' i) : wrd b t = wrd b' t := by
  unfold wrd
  rw [h (4 * t) (by omega) (by omega), h (4 * t + 1) (by omega) (by omega), h (4 * t + 2) (by omega) (by omega), h (4 * t + 3) (by omega) (by omega)]
theorem sch_congr {b b' : Nat → Int32} (h : ∀ i, i < 64 → b i = b' i) : ∀ t, sch b t = sch b' t := by
  intro t
  induction t using Nat.strongRecOn with
  | ind t ih =>
    by_cases ht : t < 16
    · rw [sch_lo b ht, sch_lo b' ht]
      exact wrd_congr fun i h1 h2 => h i (by omega)
    · rw [sch_hi b ht, sch_hi b' ht, ih (t - 16) (by omega), ih (t - 15) (by omega), ih (t - 7) (by omega), ih (t - 2) (by omega)]
theorem rds_congr {K K' W W' : Nat → Int32} {v : V8} : ∀ n, (∀ i, i < n → K i = K' i ∧ W i = W' i) → rds K W v n = rds K' W' v n
  | 0, _ => rfl
  | n + 1, h => by
    unfold rds
    rw [rds_congr n (fun i hi => h i (by omega)), (h n (by omega)).1, (h n (by omega)).2]
theorem cmp8_congr {K K' b b' : Nat → Int32} {v : V8} (hK : ∀ i, i < 64 → K i = K' i) (hb : ∀ i, i < 64 → b i = b' i) : cmp8 K b v = cmp8 K' b' v := by
  unfold cmp8
  rw [rds_congr (K' := K') (W' := sch b') 64 (fun i hi => ⟨hK i hi, sch_congr hb i⟩)]
theorem pad_congr {f f' : Nat → Int32} {n : Nat} (h : ∀ i, i < n → f i = f' i) (i : Nat) : pad f n i = pad f' n i := by
  unfold pad
  by_cases hi : i < n
  · rw [if_pos hi, if_pos hi, h i hi]
  · rw [if_neg hi, if_neg hi]
theorem sha_congr {f f' : Nat → Int32} {n : Nat} (h : ∀ i, i < n → f i = f' i) : sha f n = sha f' n := by
  unfold sha
  have e : ∀ j, shaS f n j = shaS f' n j := by
    intro j
    induction j with
    | zero => rfl
    | succ j ih =>
      unfold shaS
      rw [ih]
      exact cmp8_congr (fun _ _ => rfl) (fun i _ => pad_congr h _)
  exact e _
