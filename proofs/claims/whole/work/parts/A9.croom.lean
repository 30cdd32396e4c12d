section
/-! THE ROOM: how many messages there can be -/
section
variable {f : Nat → Nat} {n : Nat}
theorem sm_mul {c : Nat} : c * smN f n = smN (fun i => c * f i) n := by
  induction n with
  | zero => rfl
  | succ n ih =>
    show c * (smN f n + f n) = smN (fun i => c * f i) n + c * f n
    rw [Nat.mul_add, ih]
end
/-- messages whose row is so long -/
def nM (s : cS) (L : Nat) : Nat := smN (fun a => if cK s a = 5 ∧ cL s (a + 2) = L then 1 else 0) (cn s)
def nSe (g H : Nat) (s : cS) : Nat := smN (fun n => smN (fun i => if cP s (nd g n + 2) i = none then 0 else 1) 284) H
/-- the addresses and slots that there are -/
def RM (g H bn bk : Nat) (s : cS) : Prop := cn s ≤ bn + 3 * (nM s 128 + nM s 1000) + nSe g H s ∧ ck s ≤ bk + 139 * nM s 128 + 1011 * nM s 1000 + 512 * nSe g H s ∧ nM s 128 ≤ 12900 ∧ nM s 1000 ≤ 1700
section
variable {g H T m : Nat} {s : cS} {hd : List Nat} {c : Nat → Nat}
theorem w_ind {x : Option Nat} (hc : ∀ a, c a ≤ 1) : smN (fun a => c a * ind x a) m ≤ 1 := by
  refine Nat.le_trans (sm_mono (f' := ind x) (fun a _ => ?_)) (ind_sum (x := x) (m := m))
  have := hc a
  have e : c a = 0 ∨ c a = 1 := by omega
  rcases e with e | e <;> rw [e]
  · rw [Nat.zero_mul]
    exact Nat.zero_le _
  · rw [Nat.one_mul]
    exact Nat.le_refl _
theorem w_hd (hc : ∀ a, c a ≤ 1) : smN (fun a => c a * hd.count a) m ≤ hd.length := by
  induction hd with
  | nil =>
    have e : (fun a => c a * List.count a ([] : List Nat)) = fun _ => 0 := funext fun a => by rw [List.count_nil, Nat.mul_zero]
    rw [e, sm_zero]
    exact Nat.zero_le _
  | cons b hd ih =>
    have e : (fun a => c a * List.count a (b :: hd)) = fun a => c a * List.count a hd + c a * ind (some b) a := funext fun a => by
      rw [List.count_cons, Nat.mul_add]
      unfold ind
      by_cases d : b = a
      · rw [if_pos (by simpa using d), if_pos (by simpa using d)]
      · rw [if_neg (by simpa using d), if_neg (by simpa using d)]
    rw [e, sm_add]
    have := w_ind (c := c) (m := m) (x := some b) hc
    show _ ≤ hd.length + 1
    omega
theorem w_tot (B : Nat → Nat) (hc : ∀ a, c a ≤ 1) (hB : ∀ n e i, n < H → e < 6 → i < plN T e → smN (fun a => c a * ind (cP s (nd g n + plO e) i) a) m ≤ B e) : smN (fun a => c a * cnA g H T s a) m ≤ 1000 + H * (smN (fun e => plN T e * B e) 6 + 2) := by
  have e1 : (fun a => c a * cnA g H T s a) = fun a => smN (fun i => c a * ind (cP s (g + 17) i) a) 1000 + smN (fun n => c a * cnN g T s a n) H := funext fun a => by
    unfold cnA
    rw [Nat.mul_add, sm_mul, sm_mul]
  rw [e1, sm_add (f := fun a => smN (fun i => c a * ind (cP s (g + 17) i) a) 1000) (f' := fun a => smN (fun n => c a * cnN g T s a n) H), sm_swap (F := fun i a => c a * ind (cP s (g + 17) i) a), sm_swap (F := fun n a => c a * cnN g T s a n)]
  have l1 : smN (fun i => smN (fun a => c a * ind (cP s (g + 17) i) a) m) 1000 ≤ 1000 * 1 := smN_le (fun i _ => w_ind hc)
  have l2 : smN (fun n => smN (fun a => c a * cnN g T s a n) m) H ≤ H * (smN (fun e => plN T e * B e) 6 + 2) := smN_le (fun n hn => by
    show smN (fun a => c a * cnN g T s a n) m ≤ _
    have e2 : (fun a => c a * cnN g T s a n) = fun a => (smN (fun e => smN (fun i => c a * ind (cP s (nd g n + plO e) i) a) (plN T e)) 6 + c a * ind (cR s 14 (nd g n)) a) + c a * ind (cR s 15 (nd g n)) a := funext fun a => by
      unfold cnN
      rw [Nat.mul_add, Nat.mul_add, sm_mul]
      have e3 : (fun e => c a * smN (fun i => ind (cP s (nd g n + plO e) i) a) (plN T e)) = fun e => smN (fun i => c a * ind (cP s (nd g n + plO e) i) a) (plN T e) := funext fun e => sm_mul
      rw [e3]
    rw [e2, sm_add (f := fun a => smN (fun e => smN (fun i => c a * ind (cP s (nd g n + plO e) i) a) (plN T e)) 6 + c a * ind (cR s 14 (nd g n)) a) (f' := fun a => c a * ind (cR s 15 (nd g n)) a), sm_add (f := fun a => smN (fun e => smN (fun i => c a * ind (cP s (nd g n + plO e) i) a) (plN T e)) 6) (f' := fun a => c a * ind (cR s 14 (nd g n)) a), sm_swap (F := fun e a => smN (fun i => c a * ind (cP s (nd g n + plO e) i) a) (plN T e))]
    have l3 : smN (fun e => smN (fun a => smN (fun i => c a * ind (cP s (nd g n + plO e) i) a) (plN T e)) m) 6 ≤ smN (fun e => plN T e * B e) 6 := sm_mono (fun e he => by
      show smN (fun a => smN (fun i => c a * ind (cP s (nd g n + plO e) i) a) (plN T e)) m ≤ plN T e * B e
      rw [sm_swap (F := fun i a => c a * ind (cP s (nd g n + plO e) i) a)]
      exact smN_le (fun i hi => hB n e i hn he hi))
    have l4 := w_ind (c := c) (m := m) (x := cR s 14 (nd g n)) hc
    have l5 := w_ind (c := c) (m := m) (x := cR s 15 (nd g n)) hc
    omega)
  omega
/-- where no row of a size is free, there are few of them -/
theorem few_128 (hH : H ≤ 13) (hT : T ≤ 13) (hl : hd.length ≤ 60) (h : ∀ a, cK s a = 5 → cL s (a + 2) = 128 → 1 ≤ us g H T s hd a) : nM s 128 < 12900 := by
  have a1 : nM s 128 ≤ smN (fun a => 1 * us g H T s hd a) (cn s) := sm_mono (fun a _ => by
    show (if cK s a = 5 ∧ cL s (a + 2) = 128 then 1 else 0) ≤ 1 * us g H T s hd a
    split
    · rename_i z
      have := h a z.1 z.2
      omega
    · exact Nat.zero_le _)
  have e : (fun a => 1 * us g H T s hd a) = fun a => 1 * cnA g H T s a + 1 * hd.count a := funext fun a => by
    unfold us
    omega
  rw [e, sm_add (f := fun a => 1 * cnA g H T s a) (f' := fun a => 1 * hd.count a)] at a1
  have a2 := w_hd (hd := hd) (m := cn s) (c := fun _ => 1) (fun _ => Nat.le_refl _)
  have a3 := w_tot (g := g) (H := H) (T := T) (s := s) (m := cn s) (c := fun _ => 1) (fun _ => 1) (fun _ => Nat.le_refl _) (fun n e i _ _ _ => w_ind (c := fun _ => 1) (fun _ => Nat.le_refl _))
  have a4 : smN (fun e => plN T e * 1) 6 = 0 + 32 * 1 + 64 * T * 1 + T * 1 + T * 1 + T * 1 + 4 * 1 := rfl
  have a5 : H * (smN (fun e => plN T e * 1) 6 + 2) ≤ 13 * 909 := Nat.mul_le_mul hH (by rw [a4]; omega)
  have a2' : smN (fun a => 1 * hd.count a) (cn s) ≤ hd.length := a2
  have a3' : smN (fun a => 1 * cnA g H T s a) (cn s) ≤ 1000 + H * (smN (fun e => plN T e * 1) 6 + 2) := a3
  omega
theorem few_1000 (hH : H ≤ 13) (hT : T ≤ 13) (hl : hd.length ≤ 30) (hs : smP g H T s) (h : ∀ a, cK s a = 5 → cL s (a + 2) = 1000 → 1 ≤ us g H T s hd a) : nM s 1000 < 1700 := by
  have hc : ∀ a, (fun a => if cL s (a + 2) = 1000 then 1 else 0) a ≤ 1 := fun a => by
    show (if cL s (a + 2) = 1000 then 1 else 0) ≤ 1
    split <;> omega
  have a1 : nM s 1000 ≤ smN (fun a => (fun a => if cL s (a + 2) = 1000 then 1 else 0) a * us g H T s hd a) (cn s) := sm_mono (fun a _ => by
    show (if cK s a = 5 ∧ cL s (a + 2) = 1000 then 1 else 0) ≤ (if cL s (a + 2) = 1000 then 1 else 0) * us g H T s hd a
    split
    · rename_i z
      have := h a z.1 z.2
      rw [if_pos z.2]
      omega
    · exact Nat.zero_le _)
  have e : (fun a => (fun a => if cL s (a + 2) = 1000 then 1 else 0) a * us g H T s hd a) = fun a => (fun a => if cL s (a + 2) = 1000 then 1 else 0) a * cnA g H T s a + (fun a => if cL s (a + 2) = 1000 then 1 else 0) a * hd.count a := funext fun a => by
    unfold us
    rw [Nat.mul_add]
  rw [e, sm_add (f := fun a => (fun a => if cL s (a + 2) = 1000 then 1 else 0) a * cnA g H T s a) (f' := fun a => (fun a => if cL s (a + 2) = 1000 then 1 else 0) a * hd.count a)] at a1
  have a2 := w_hd (hd := hd) (m := cn s) hc
  have a3 := w_tot (g := g) (H := H) (T := T) (s := s) (m := cn s) (fun e => if e = 1 ∨ e = 3 ∨ e = 4 then 0 else 1) hc (fun n e i hn he hi => by
    by_cases z : e = 1 ∨ e = 3 ∨ e = 4
    · show _ ≤ if e = 1 ∨ e = 3 ∨ e = 4 then 0 else 1
      rw [if_pos z]
      have k : (fun a => (fun a => if cL s (a + 2) = 1000 then 1 else 0) a * ind (cP s (nd g n + plO e) i) a) = fun _ => 0 := funext fun a => by
        show (if cL s (a + 2) = 1000 then 1 else 0) * ind (cP s (nd g n + plO e) i) a = 0
        unfold ind
        by_cases x : cP s (nd g n + plO e) i = some a
        · have := (hs.1 n e i a hn he hi x).1 z
          rw [if_neg (by omega), Nat.zero_mul]
        · rw [if_neg x, Nat.mul_zero]
      rw [k, sm_zero]
      exact Nat.le_refl _
    · show _ ≤ if e = 1 ∨ e = 3 ∨ e = 4 then 0 else 1
      rw [if_neg z]
      exact w_ind hc)
  have a4 : smN (fun e => plN T e * (if e = 1 ∨ e = 3 ∨ e = 4 then 0 else 1)) 6 = 0 + 32 * 1 + 64 * T * 0 + T * 1 + T * 0 + T * 0 + 4 * 1 := rfl
  have a5 : H * (smN (fun e => plN T e * (if e = 1 ∨ e = 3 ∨ e = 4 then 0 else 1)) 6 + 2) ≤ 13 * 51 := Nat.mul_le_mul hH (by rw [a4]; omega)
  have a3' : smN (fun a => (fun a => if cL s (a + 2) = 1000 then 1 else 0) a * cnA g H T s a) (cn s) ≤ 1000 + H * (smN (fun e => plN T e * (if e = 1 ∨ e = 3 ∨ e = 4 then 0 else 1)) 6 + 2) := a3
  have a1' : nM s 1000 ≤ smN (fun a => (if cL s (a + 2) = 1000 then 1 else 0) * cnA g H T s a) (cn s) + smN (fun a => (if cL s (a + 2) = 1000 then 1 else 0) * List.count a hd) (cn s) := a1
  have a3'' : smN (fun a => (if cL s (a + 2) = 1000 then 1 else 0) * cnA g H T s a) (cn s) ≤ 1000 + H * (smN (fun e => plN T e * (if e = 1 ∨ e = 3 ∨ e = 4 then 0 else 1)) 6 + 2) := a3
  omega
end
end
