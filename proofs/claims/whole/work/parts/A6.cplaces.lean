section
/-! WHO HOLDS A MESSAGE: sums over places -/
def smN (f : Nat → Nat) : Nat → Nat
  | 0 => 0
  | n + 1 => smN f n + f n
section
variable {f f' : Nat → Nat} {n i : Nat}
theorem sm_eq (h : ∀ i, i < n → f' i = f i) : smN f' n = smN f n := by
  induction n with
  | zero => rfl
  | succ n ih =>
    show smN f' n + f' n = smN f n + f n
    rw [ih (fun i hi => h i (by omega)), h n (by omega)]
theorem sm_one (hi : i < n) (h : ∀ j, j < n → j ≠ i → f' j = f j) : smN f' n + f i = smN f n + f' i := by
  induction n with
  | zero => omega
  | succ n ih =>
    show smN f' n + f' n + f i = smN f n + f n + f' i
    by_cases c : i = n
    · have e := sm_eq (f := f) (f' := f') (n := n) (fun j hj => h j (by omega) (by omega))
      rw [e, c]
      omega
    · have a := ih (by omega) (fun j hj => h j (by omega))
      have b := h n (by omega) (fun z => c z.symm)
      omega
theorem smN_le {c : Nat} (h : ∀ i, i < n → f i ≤ c) : smN f n ≤ n * c := by
  induction n with
  | zero => exact Nat.zero_le _
  | succ n ih =>
    show smN f n + f n ≤ (n + 1) * c
    have a := ih (fun i hi => h i (by omega))
    have b := h n (by omega)
    rw [Nat.succ_mul]
    omega
theorem sm_mono (h : ∀ i, i < n → f i ≤ f' i) : smN f n ≤ smN f' n := by
  induction n with
  | zero => exact Nat.le_refl _
  | succ n ih =>
    show smN f n + f n ≤ smN f' n + f' n
    have a := ih (fun i hi => h i (by omega))
    have b := h n (by omega)
    omega
theorem sm_get (hi : i < n) : f i ≤ smN f n := by
  induction n with
  | zero => omega
  | succ n ih =>
    show f i ≤ smN f n + f n
    by_cases c : i = n
    · rw [c]
      omega
    · have a := ih (by omega)
      omega
theorem sm_add : smN (fun i => f i + f' i) n = smN f n + smN f' n := by
  induction n with
  | zero => rfl
  | succ n ih =>
    show smN (fun i => f i + f' i) n + (f n + f' n) = smN f n + f n + (smN f' n + f' n)
    omega
theorem sm_zero : smN (fun _ => 0) n = 0 := by
  induction n with
  | zero => rfl
  | succ n ih =>
    show smN (fun _ => 0) n + 0 = 0
    omega
theorem sm_swap {F : Nat → Nat → Nat} {m : Nat} : smN (fun a => smN (fun i => F i a) n) m = smN (fun i => smN (fun a => F i a) m) n := by
  induction n with
  | zero => exact sm_zero
  | succ n ih =>
    show smN (fun a => smN (fun i => F i a) n + F n a) m = smN (fun i => smN (fun a => F i a) m) n + smN (fun a => F n a) m
    rw [sm_add (f := fun a => smN (fun i => F i a) n) (f' := fun a => F n a), ih]
end
/-- one if a place holds a -/
def ind (x : Option Nat) (a : Nat) : Nat := if x = some a then 1 else 0
section
variable {x : Option Nat} {a b m : Nat}
theorem ind_le : ind x a ≤ 1 := by
  unfold ind
  split <;> omega
theorem ind_none : ind none a = 0 := by
  unfold ind
  rw [if_neg (by simp)]
theorem ind_s : ind (some a) a = 1 := by
  unfold ind
  rw [if_pos rfl]
theorem ind_o (h : b ≠ a) : ind (some b) a = 0 := by
  unfold ind
  rw [if_neg (by simpa using h)]
theorem ind_sum : smN (ind x) m ≤ 1 := by
  have k : smN (ind x) m ≤ (match x with | none => 0 | some b => if b < m then 1 else 0) := by
    induction m with
    | zero => exact Nat.zero_le _
    | succ m ih =>
      show smN (ind x) m + ind x m ≤ _
      cases x with
      | none =>
        have e : ind none m = 0 := ind_none
        rw [e]
        exact ih
      | some b =>
        show _ ≤ if b < m + 1 then 1 else 0
        have ih' : smN (ind (some b)) m ≤ if b < m then 1 else 0 := ih
        by_cases c : b = m
        · have e : ind (some b) m = 1 := by rw [c]; exact ind_s
          rw [e, if_pos (by omega)]
          rw [if_neg (by omega)] at ih'
          omega
        · have e : ind (some b) m = 0 := ind_o c
          rw [e]
          by_cases d : b < m
          · rw [if_pos d] at ih'
            rw [if_pos (by omega)]
            omega
          · rw [if_neg d] at ih'
            rw [if_neg (by omega)]
            omega
  refine Nat.le_trans k ?_
  cases x with
  | none => exact Nat.zero_le _
  | some b =>
    show (if b < m then 1 else 0) ≤ 1
    split <;> omega
end
/-- a node's rows of messages: proposals, votes, decided, snapshots, proofs, answers -/
def plO : Nat → Nat
  | 0 => 15
  | 1 => 19
  | 2 => 20
  | 3 => 22
  | 4 => 23
  | _ => 13
def plN (T : Nat) : Nat → Nat
  | 0 => 32
  | 1 => 64 * T
  | 2 => T
  | 3 => T
  | 4 => T
  | _ => 4
theorem plO_ne : ∀ e, e < 6 → ∀ e', e' < 6 → e' ≠ e → plO e' ≠ plO e := by decide
theorem plO_b (e : Nat) : 13 ≤ plO e ∧ plO e ≤ 23 := by
  unfold plO
  split <;> omega
def cnN (g T : Nat) (s : cS) (a n : Nat) : Nat := smN (fun e => smN (fun i => ind (cP s (nd g n + plO e) i) a) (plN T e)) 6 + ind (cR s 14 (nd g n)) a + ind (cR s 15 (nd g n)) a
/-- how many places hold a -/
def cnA (g H T : Nat) (s : cS) (a : Nat) : Nat := smN (fun i => ind (cP s (g + 17) i) a) 1000 + smN (cnN g T s a) H
theorem cR_at (s : cS) (k a : Nat) (v : Option Nat) : cR (csR s k a v) k a = v := by
  show up2 (cR s) k a v k a = v
  unfold up2
  simp
theorem cR_ne (s : cS) {k a k' a' : Nat} (v : Option Nat) (h : k' ≠ k ∨ a' ≠ a) : cR (csR s k a v) k' a' = cR s k' a' := by
  show up2 (cR s) k a v k' a' = _
  unfold up2
  rw [if_neg (by omega)]
section
variable {g H T : Nat} {s s' : cS} {a : Nat}
theorem cnA_sky {i : Nat} {x : Option Nat} (hi : i < 1000) : cnA g H T (csP s (g + 17) i x) a + ind (cP s (g + 17) i) a = cnA g H T s a + ind x a := by
  unfold cnA
  have e1 : cnN g T (csP s (g + 17) i x) a = cnN g T s a := funext fun n => by
    unfold cnN
    have e : ∀ e, cP (csP s (g + 17) i x) (nd g n + plO e) = cP s (nd g n + plO e) := fun e => cP_other _ _ _ (by
      have := plO_b e
      unfold nd
      omega)
    have e2 : (fun e => smN (fun j => ind (cP (csP s (g + 17) i x) (nd g n + plO e) j) a) (plN T e)) = fun e => smN (fun j => ind (cP s (nd g n + plO e) j) a) (plN T e) := funext fun e' => by rw [e e']
    rw [e2]
    rfl
  have e2 := sm_one (f := fun j => ind (cP s (g + 17) j) a) (f' := fun j => ind (cP (csP s (g + 17) i x) (g + 17) j) a) hi (fun j _ hj => by
    show ind (cP (csP s (g + 17) i x) (g + 17) j) a = _
    rw [cP_at, if_neg hj])
  have e3 : ind (cP (csP s (g + 17) i x) (g + 17) i) a = ind x a := by rw [cP_at, if_pos rfl]
  rw [e1]
  have e2' : smN (fun j => ind (cP (csP s (g + 17) i x) (g + 17) j) a) 1000 + ind (cP s (g + 17) i) a = smN (fun j => ind (cP s (g + 17) j) a) 1000 + ind (cP (csP s (g + 17) i x) (g + 17) i) a := e2
  omega
theorem cnA_row {n e i : Nat} {x : Option Nat} (hn : n < H) (he : e < 6) (hi : i < plN T e) : cnA g H T (csP s (nd g n + plO e) i x) a + ind (cP s (nd g n + plO e) i) a = cnA g H T s a + ind x a := by
  unfold cnA
  have bd := plO_b e
  have e1 : cP (csP s (nd g n + plO e) i x) (g + 17) = cP s (g + 17) := cP_other _ _ _ (by unfold nd; omega)
  have e2 := sm_one (f := cnN g T s a) (f' := cnN g T (csP s (nd g n + plO e) i x) a) hn (fun m _ hm => by
    unfold cnN
    have z : ∀ e', cP (csP s (nd g n + plO e) i x) (nd g m + plO e') = cP s (nd g m + plO e') := fun e' => cP_other _ _ _ (by
      have := plO_b e'
      unfold nd
      omega)
    have z2 : (fun e' => smN (fun j => ind (cP (csP s (nd g n + plO e) i x) (nd g m + plO e') j) a) (plN T e')) = fun e' => smN (fun j => ind (cP s (nd g m + plO e') j) a) (plN T e') := funext fun e' => by rw [z e']
    rw [z2]
    rfl)
  have e3 := sm_one (f := fun e' => smN (fun j => ind (cP s (nd g n + plO e') j) a) (plN T e')) (f' := fun e' => smN (fun j => ind (cP (csP s (nd g n + plO e) i x) (nd g n + plO e') j) a) (plN T e')) he (fun e' h1 h2 => by
    have z : cP (csP s (nd g n + plO e) i x) (nd g n + plO e') = cP s (nd g n + plO e') := cP_other _ _ _ (by
      have := plO_ne e he e' h1 h2
      omega)
    show smN (fun j => ind (cP (csP s (nd g n + plO e) i x) (nd g n + plO e') j) a) (plN T e') = _
    rw [z])
  have e4 := sm_one (f := fun j => ind (cP s (nd g n + plO e) j) a) (f' := fun j => ind (cP (csP s (nd g n + plO e) i x) (nd g n + plO e) j) a) hi (fun j _ hj => by
    show ind (cP (csP s (nd g n + plO e) i x) (nd g n + plO e) j) a = _
    rw [cP_at, if_neg hj])
  have e5 : ind (cP (csP s (nd g n + plO e) i x) (nd g n + plO e) i) a = ind x a := by rw [cP_at, if_pos rfl]
  have e3' : smN (fun e' => smN (fun j => ind (cP (csP s (nd g n + plO e) i x) (nd g n + plO e') j) a) (plN T e')) 6 + smN (fun j => ind (cP s (nd g n + plO e) j) a) (plN T e) = smN (fun e' => smN (fun j => ind (cP s (nd g n + plO e') j) a) (plN T e')) 6 + smN (fun j => ind (cP (csP s (nd g n + plO e) i x) (nd g n + plO e) j) a) (plN T e) := e3
  have e4' : smN (fun j => ind (cP (csP s (nd g n + plO e) i x) (nd g n + plO e) j) a) (plN T e) + ind (cP s (nd g n + plO e) i) a = smN (fun j => ind (cP s (nd g n + plO e) j) a) (plN T e) + ind (cP (csP s (nd g n + plO e) i x) (nd g n + plO e) i) a := e4
  have u1 : cnN g T (csP s (nd g n + plO e) i x) a n = smN (fun e' => smN (fun j => ind (cP (csP s (nd g n + plO e) i x) (nd g n + plO e') j) a) (plN T e')) 6 + ind (cR s 14 (nd g n)) a + ind (cR s 15 (nd g n)) a := rfl
  have u2 : cnN g T s a n = smN (fun e' => smN (fun j => ind (cP s (nd g n + plO e') j) a) (plN T e')) 6 + ind (cR s 14 (nd g n)) a + ind (cR s 15 (nd g n)) a := rfl
  rw [e1]
  omega
theorem cnA_fld {n k : Nat} {x : Option Nat} (hn : n < H) (hk : k = 14 ∨ k = 15) : cnA g H T (csR s k (nd g n) x) a + ind (cR s k (nd g n)) a = cnA g H T s a + ind x a := by
  unfold cnA
  have e2 := sm_one (f := cnN g T s a) (f' := cnN g T (csR s k (nd g n) x) a) hn (fun m _ hm => by
    unfold cnN
    rw [cR_ne _ _ (Or.inr (by unfold nd; omega)), cR_ne _ _ (Or.inr (by unfold nd; omega))]
    rfl)
  have e3 : cnN g T (csR s k (nd g n) x) a n + ind (cR s k (nd g n)) a = cnN g T s a n + ind x a := by
    have u1 : cnN g T (csR s k (nd g n) x) a n = smN (fun e' => smN (fun j => ind (cP s (nd g n + plO e') j) a) (plN T e')) 6 + ind (cR (csR s k (nd g n) x) 14 (nd g n)) a + ind (cR (csR s k (nd g n) x) 15 (nd g n)) a := rfl
    have u2 : cnN g T s a n = smN (fun e' => smN (fun j => ind (cP s (nd g n + plO e') j) a) (plN T e')) 6 + ind (cR s 14 (nd g n)) a + ind (cR s 15 (nd g n)) a := rfl
    rcases hk with rfl | rfl
    · rw [cR_at, cR_ne _ _ (Or.inl (by decide))] at u1
      omega
    · rw [cR_at, cR_ne _ _ (Or.inl (by decide))] at u1
      omega
  have e4 : smN (fun i => ind (cP (csR s k (nd g n) x) (g + 17) i) a) 1000 = smN (fun i => ind (cP s (g + 17) i) a) 1000 := rfl
  omega
theorem cnA_fr (h1 : cP s' (g + 17) = cP s (g + 17)) (h2 : ∀ n e, n < H → e < 6 → cP s' (nd g n + plO e) = cP s (nd g n + plO e)) (h3 : ∀ n k, n < H → k = 14 ∨ k = 15 → cR s' k (nd g n) = cR s k (nd g n)) : cnA g H T s' a = cnA g H T s a := by
  unfold cnA
  rw [h1, sm_eq (f := cnN g T s a) (f' := cnN g T s' a) (fun n hn => by
    unfold cnN
    rw [h3 n 14 hn (Or.inl rfl), h3 n 15 hn (Or.inr rfl), sm_eq (f := fun e => smN (fun i => ind (cP s (nd g n + plO e) i) a) (plN T e)) (f' := fun e => smN (fun i => ind (cP s' (nd g n + plO e) i) a) (plN T e)) (fun e he => by
      show smN (fun i => ind (cP s' (nd g n + plO e) i) a) (plN T e) = _
      rw [h2 n e hn he])])]
theorem cnA_hs {i : Nat} (hi : i < 1000) (h : cP s (g + 17) i = some a) : 1 ≤ cnA g H T s a := by
  have e := sm_get (f := fun j => ind (cP s (g + 17) j) a) hi
  have e' : ind (cP s (g + 17) i) a ≤ smN (fun j => ind (cP s (g + 17) j) a) 1000 := e
  rw [h, ind_s] at e'
  unfold cnA
  omega
theorem cnA_hr {n e i : Nat} (hn : n < H) (he : e < 6) (hi : i < plN T e) (h : cP s (nd g n + plO e) i = some a) : 1 ≤ cnA g H T s a := by
  have e1 := sm_get (f := fun j => ind (cP s (nd g n + plO e) j) a) hi
  have e1' : ind (cP s (nd g n + plO e) i) a ≤ smN (fun j => ind (cP s (nd g n + plO e) j) a) (plN T e) := e1
  rw [h, ind_s] at e1'
  have e2 : smN (fun j => ind (cP s (nd g n + plO e) j) a) (plN T e) ≤ smN (fun e' => smN (fun j => ind (cP s (nd g n + plO e') j) a) (plN T e')) 6 := sm_get (f := fun e' => smN (fun j => ind (cP s (nd g n + plO e') j) a) (plN T e')) he
  have e3 := sm_get (f := cnN g T s a) hn
  have u2 : cnN g T s a n = smN (fun e' => smN (fun j => ind (cP s (nd g n + plO e') j) a) (plN T e')) 6 + ind (cR s 14 (nd g n)) a + ind (cR s 15 (nd g n)) a := rfl
  unfold cnA
  omega
theorem cnA_hf {n k : Nat} (hn : n < H) (hk : k = 14 ∨ k = 15) (h : cR s k (nd g n) = some a) : 1 ≤ cnA g H T s a := by
  have e3 := sm_get (f := cnN g T s a) hn
  have u2 : cnN g T s a n = smN (fun e' => smN (fun j => ind (cP s (nd g n + plO e') j) a) (plN T e')) 6 + ind (cR s 14 (nd g n)) a + ind (cR s 15 (nd g n)) a := rfl
  unfold cnA
  rcases hk with rfl | rfl <;> rw [h, ind_s] at u2 <;> omega
/-- no message is held more often than there are places -/
theorem cnA_le (hH : H ≤ 13) (hT : T ≤ 13) : cnA g H T s a ≤ 20000 := by
  unfold cnA
  have e1 := smN_le (f := fun i => ind (cP s (g + 17) i) a) (n := 1000) (c := 1) (fun i _ => ind_le)
  have e2 := smN_le (f := cnN g T s a) (n := H) (c := 1000) (fun n _ => by
    have z : ∀ e, smN (fun i => ind (cP s (nd g n + plO e) i) a) (plN T e) ≤ plN T e * 1 := fun e => smN_le (fun i _ => ind_le)
    have z0 := z 0
    have z1 := z 1
    have z2 := z 2
    have z3 := z 3
    have z4 := z 4
    have z5 := z 5
    have d0 : plN T 0 = 32 := rfl
    have d1 : plN T 1 = 64 * T := rfl
    have d2 : plN T 2 = T := rfl
    have d3 : plN T 3 = T := rfl
    have d4 : plN T 4 = T := rfl
    have d5 : plN T 5 = 4 := rfl
    have l1 := ind_le (x := cR s 14 (nd g n)) (a := a)
    have l2 := ind_le (x := cR s 15 (nd g n)) (a := a)
    have u : cnN g T s a n = 0 + smN (fun i => ind (cP s (nd g n + plO 0) i) a) (plN T 0) + smN (fun i => ind (cP s (nd g n + plO 1) i) a) (plN T 1) + smN (fun i => ind (cP s (nd g n + plO 2) i) a) (plN T 2) + smN (fun i => ind (cP s (nd g n + plO 3) i) a) (plN T 3) + smN (fun i => ind (cP s (nd g n + plO 4) i) a) (plN T 4) + smN (fun i => ind (cP s (nd g n + plO 5) i) a) (plN T 5) + ind (cR s 14 (nd g n)) a + ind (cR s 15 (nd g n)) a := rfl
    omega)
  omega
end
end
