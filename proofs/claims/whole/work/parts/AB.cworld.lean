section
/-! THE CLASS'S STATE TELLS A WORLD -/
/-- which of the rules have been -/
def beN (v : Nat → Int) : Nat := (v 6).toNat + 2 * (v 7).toNat + 4 * (v 8).toNat
def tmC (x : Int) : Int := if x = -1 then 0 else x
def qN (I : Nat → Nat → Int32) (b n : Nat) (v : Nat → Int) (pe : Int) : Prop := I 1 b = nI n ∧ I 8 b = iI (v 0) ∧ I 9 b = iI (v 1) ∧ I 10 b = iI (v 2) ∧ I 11 b = iI (v 3) ∧ I 12 b = iI (v 4) ∧ I 13 b = iI (v 5) ∧ I 16 b = nI (beN v) ∧ I 17 b = iI (v 17) ∧ I 18 b = iI pe
def qT (A : Nat → Int32) (v : Nat → Int) : Prop := ∀ t, t < 3 → A t = iI (tmC (v (9 + t)))
def qL (I : Nat → Nat → Int32) (b : Nat) (v : Nat → Int) : Prop := I 5 (b + 1) = iI (v 16) ∧ I 6 (b + 1) = iI (v 15) ∧ I 7 (b + 1) = iI (v 13) ∧ I 8 (b + 1) = iI (v 14) ∧ I 9 (b + 1) = iI (v 12)
/-- a sector's row -/
def seR (g H : Nat) (s : cS) (r : Nat) (f : Nat → Nat) : Prop := nd g H ≤ r ∧ r < cn s ∧ cK s r = 20 ∧ cL s r = 512 ∧ cK s (r - 2) ≠ 5 ∧ ∀ j, j < 512 → f j < 256 ∧ cA s r j = sb (f j)
def qX (g H : Nat) (s : cS) (b : Nat) (v : Nat → Int) (x : Nat → Nat → Nat) : Prop := ∀ i, i < 284 → cA s (b + 3) i = iI (v (100 + i)) ∧ (v (100 + i) = 0 ∨ v (100 + i) = 1) ∧ (cP s (b + 2) i = none → v (100 + i) = 0 ∧ ∀ j, j < 512 → x i j = 0) ∧ ∀ r, cP s (b + 2) i = some r → seR g H s r (x i)
/-- the chain, by its notes -/
def qC (A : Nat → Int32) (v : Nat → Int) (x : Nat → Nat → Nat) (c : Nat → Option (List Nat)) : Prop := ∀ h, 1 ≤ h → h ≤ 40 → (c h = none → A h = nI 0) ∧ ∀ y, c h = some y → A h = nI y.length ∧ bOK y ∧ v (100 + (2 * h - 2)) = 1 ∧ (504 < y.length → v (100 + (2 * h - 1)) = 1) ∧ ∀ i, i < y.length → (if i < 504 then x (2 * h - 2) (8 + i) else x (2 * h - 1) (i - 504)) = bg y i
/-- who has paid, as bits -/
def finB (k : Bk) : Nat := smN (fun a => if k (32 + a) = 0 then 0 else 2 ^ a) 16
def bkC (s : cS) (o : Nat) (k : Bk) : Prop := (∀ a, a < 16 → cA s (o + 1) a = iI (k a) ∧ cA s (o + 2) a = iI (k (16 + a))) ∧ cI s 2 o = nI (finB k)
def rtC (s : cS) (o : Nat) (k : Bk) : Prop := cI s 5 o = nI 1 ∨ (cI s 5 o = nI 0 ∧ ∀ i, i < 32 → cA s (o + 3) i = sb (bg (acR k) i))
def vB (v : Nat → Int) : Bk := fun i => if i < 48 then v (32 + i) else 0
def qB (s : cS) (b : Nat) (v : Nat → Int) (d : Option (List Nat)) : Prop := bkC s (b + 6) (vB v) ∧ rtC s (b + 6) (vB v) ∧ ∃ y, d = some y ∧ y.length = 32 ∧ isB y ∧ ∀ i, i < 32 → cA s (b + 11) i = sb (bg y i)
/-- a block can stand behind the chain -/
def vaL (v : Nat → Int) (o : Option (List Nat)) (b : List Nat) : Prop := ∃ d, o = some d ∧ (tw b 0 : Int) = v 1 ∧ (∀ i, i < 32 → bg b (3 + i) = bg d i) ∧ (∀ i, i < 32 → bg b (35 + i) = bg (acR (vB v)) i) ∧ (bPl (vB v) b).2 = true
/-- what is known of a block: nothing yet, that it can stand, that it cannot -/
def juD (P : Prop) (x : Int32) : Prop := x = nI 0 ∨ (x = nI 1 ∧ P) ∨ (x = nI 2 ∧ ¬ P)
/-- the same of a block behind the chain; nothing is said while the accounts are between two heights (then the first account is told out of its range) -/
def juV (v : Nat → Int) (o : Option (List Nat)) (b : List Nat) (x : Int32) : Prop := 1000000 < v 32 ∨ juD (vaL v o b) x
/-- where the class keeps a vote -/
def vqC (T c p r k : Nat) : Nat := (2 * (16 * p + r) + c) * T + k
/-- what is held: proposals, votes, verdicts, tops -/
def qH (s : cS) (ct : Nat → List Nat) (b T : Nat) (v : Nat → Int) (o : Option (List Nat)) (z : Nat → Nat → Option (List Nat)) : Prop := (∀ i, i < 32 → (cP s (b + 15) i).map ct = z 4 i) ∧ (∀ c p r k, c ≤ 1 → p ≤ 1 → r < 16 → k < T → (cP s (b + 19) (vqC T c p r k)).map ct = z 5 (vq c p r k)) ∧ (∀ i, i < 32 → cA s (b + 16) i = nI 0 ∨ ∃ m, z 4 i = some m ∧ i / 16 = (v 1).toNat % 2 ∧ juV v o (m.drop 6) (cA s (b + 16) i)) ∧ ∀ p, p ≤ 1 → ∃ t, t ≤ 16 ∧ cA s (b + 17) p = nI t ∧ ∀ r, t ≤ r → r < 16 → z 4 (16 * p + r) = none ∧ ∀ c k, c ≤ 1 → k < T → z 5 (vq c p r k) = none
/-- while a node is down it has what it sent itself -/
def owH (n : Nat) (v : Nat → Int) (y : Nat → Nat → Option (List Nat)) (f i : Nat) (m : List Nat) : Prop := ∃ j : Nat, (j : Int) < v 17 ∧ y 8 j = some m ∧ ((f = 4 ∧ bg m 0 = 1 ∧ i = 16 * ((v 1).toNat % 2) + bg m 4) ∨ (f = 5 ∧ bg m 0 ≠ 1 ∧ i = vq (if bg m 0 = 3 then 1 else 0) ((v 1).toNat % 2) (bg m 4) n))
def owZ (T n : Nat) (v : Nat → Int) (y z : Nat → Nat → Option (List Nat)) : Prop := (v 0 = 1 → ∀ f i, f = 4 ∨ f = 5 → z f i = y f i) ∧ (v 0 ≠ 1 → (∀ f i, 2 ≤ f → f ≤ 6 → y f i = none) ∧ (∀ i m, i < 32 → (z 4 i = some m ↔ owH n v y 4 i m)) ∧ ∀ c p r k m, c ≤ 1 → p ≤ 1 → r < 16 → k < T → (z 5 (vq c p r k) = some m ↔ owH n v y 5 (vq c p r k) m))
def qD (s : cS) (ct : Nat → List Nat) (b T : Nat) (v : Nat → Int) (o : Option (List Nat)) (d : Nat → Option (List Nat)) : Prop := (∀ k, k < T → (cP s (b + 20) k).map ct = d k) ∧ (∀ k m, k < T → d k = some m → juV v o (m.drop 1) (cA s (b + 21) k)) ∧ cI s 11 (b + 14) = nI (cnt (fun k => d k ≠ none) T)
def qS_ (s : cS) (ct : Nat → List Nat) (b T : Nat) (y : Nat → Nat → Option (List Nat)) : Prop := (∀ k, k < T → (cP s (b + 22) k).map ct = y 3 k) ∧ (∀ k, k < T → (cP s (b + 23) k).map ct = y 2 k) ∧ cI s 13 (b + 14) = nI (cnt (fun k => y 2 k ≠ none) T)
/-- seven bytes as a long -/
def coD (p : List Nat) : Int64 := l8 (fun j => nI (bg p j)) 7
def qP (s : cS) (b : Nat) (p : List (List Nat)) : Prop := cI s 12 (b + 14) = nI p.length ∧ p.length ≤ 80 ∧ ∀ i, i < p.length → cJ s (b + 18) i = coD (pg p i)
def qK (s : cS) (ct : Nat → List Nat) (b : Nat) (y : Nat → Nat → Option (List Nat)) : Prop := (cR s 14 b).map (fun a => (ct a).drop 6) = y 0 0 ∧ (cR s 15 b).map (fun a => (ct a).drop 6) = y 1 0 ∧ ∀ k a, k = 14 ∨ k = 15 → cR s k b = some a → bg (ct a) 0 = 1
/-- answers that were made already -/
def qA (s : cS) (ct : Nat → List Nat) (b : Nat) (v : Nat → Int) (c : Nat → Option (List Nat)) : Prop := ∀ j a, j < 4 → cP s (b + 13) j = some a → ∃ (h : Nat) (x : List Nat), h % 4 = j ∧ 1 ≤ h ∧ (h : Int) < v 1 ∧ v 1 ≤ h + 4 ∧ c h = some x ∧ ct a = 4 :: x
/-- what no note writes -/
def qZ (A : Nat → Int32) : Prop := A 6 = sb 0 ∧ A 7 = sb 0
def CN (g H T : Nat) (s : cS) (ct : Nat → List Nat) (n : Nat) (v : Nat → Int) (y : Nat → Nat → Option (List Nat)) (p : List (List Nat)) (x : Nat → Nat → Nat) (pe : Int) : Prop := qN (cI s) (nd g n) n v pe ∧ qT (cA s (nd g n + 12)) v ∧ qL (cI s) (nd g n) v ∧ qX g H s (nd g n) v x ∧ qC (cA s (nd g n + 5)) v x (y 7) ∧ qB s (nd g n) v (y 9 0) ∧ (∃ z, qH s ct (nd g n) T v (y 9 0) z ∧ owZ T n v y z) ∧ qD s ct (nd g n) T v (y 9 0) (y 6) ∧ qS_ s ct (nd g n) T y ∧ qP s (nd g n) p ∧ qK s ct (nd g n) y ∧ qA s ct (nd g n) v (y 7) ∧ cI s 1 (nd g n + 14) = nI T ∧ qZ (cA s (nd g n + 4))
def kSk (g : Nat) (s : cS) (ct : Nat → List Nat) (k : Sk) (tm : Nat) : Prop := (∃ ld t, cSkT s (g + 11) k.1 ld t ∧ (∀ i, i < k.1.length → ct (ld i) = (fg k.1 i).2.2.2) ∧ ∀ j, k.1.length ≤ j → j < 1000 → cP s (g + 17) (t j) = none) ∧ cI s 11 (g + 11) = iI k.2.1 ∧ cI s 12 (g + 11) = iI k.2.2 ∧ cI s 10 (g + 11) = nI tm
def kTp (g : Nat) (s : cS) (l : List Nat) : Prop := cI s 3 g = nI l.length ∧ l.length ≤ 1000 ∧ isB l ∧ ∀ i, i < l.length → cA s (g + 1) i = sb (bg l i)
def kFx (F g H T : Nat) (s : cS) : Prop := cI s 0 (g + 8) = nI F ∧ cI s 1 (g + 8) = nI T ∧ cI s 2 (g + 8) = nI H ∧ cI s 3 (g + 8) = nI (2 * F + 1) ∧ cI s 1 (g + 9) = nI T
def kLa (g : Nat) (s : cS) : Prop := ∃ k, bkOK k ∧ bkC s (g + 23) k ∧ rtC s (g + 23) k
def kIn (g H : Nat) (s : cS) : Prop := ∀ n i n' i' r, n < H → n' < H → i < 284 → i' < 284 → cP s (nd g n + 2) i = some r → cP s (nd g n' + 2) i' = some r → n = n' ∧ i = i'
def CE (F g H T : Nat) (s : cS) (ct : Nat → List Nat) (w : Wd) (pe : Nat → Int) : Prop := kFx F g H T s ∧ kSk g s ct (wK w) (wT w) ∧ kTp g s (wL w) ∧ kLa g s ∧ kIn g H s ∧ ∀ n, n < H → CN g H T s ct n (wN w n) (wY w n) (wP w n) (wX w n) (pe n)
/-- room that is kept back while the class is made: while what is pending is not told for the numbers that no node has -/
noncomputable def rb (pe : Nat → Int) : Nat := cif (∀ k, ∃ m, k ≤ m ∧ pe m ≠ -1) 0 100
theorem rb_le {pe : Nat → Int} : rb pe ≤ 100 := by
  unfold rb
  by_cases c : ∀ k, ∃ m, k ≤ m ∧ pe m ≠ -1
  · rw [cif_pos c]
    omega
  · rw [cif_neg c]
    omega
theorem rb_eq {pe pe' : Nat → Int} {n : Nat} (hp : ∀ m, m ≠ n → pe' m = pe m) : rb pe' = rb pe := by
  have e : (∀ k, ∃ m, k ≤ m ∧ pe' m ≠ -1) = (∀ k, ∃ m, k ≤ m ∧ pe m ≠ -1) := propext ⟨fun h k => by
    obtain ⟨m, a, b⟩ := h (k + n + 1)
    exact ⟨m, by omega, by rw [← hp m (by omega)]; exact b⟩, fun h k => by
    obtain ⟨m, a, b⟩ := h (k + n + 1)
    exact ⟨m, by omega, by rw [hp m (by omega)]; exact b⟩⟩
  unfold rb
  rw [e]
theorem rb_0 : rb (fun _ => -1) = 100 := cif_neg (fun h => (h 0).elim fun _ q => q.2 rfl)
theorem rb_1 : rb (fun m => if m < 100 then -1 else 0) = 0 := cif_pos (fun k => ⟨k + 100, by omega, by show (if k + 100 < 100 then (-1 : Int) else 0) ≠ -1; rw [if_neg (by omega)]; decide⟩)
/-- all of the class's state -/
def CR (F g H T : Nat) (s : cS) (ct : Nat → List Nat) (hd : List Nat) (w : Wd) (pe : Nat → Int) : Prop := cst F H T ∧ St 0 g H T s ∧ nd g H ≤ cn s ∧ HP g H T s ct hd ∧ RM g H (g + 400 + rb pe) (90000 + 7000 * rb pe) s ∧ CE F g H T s ct w pe
section
variable {F g H T n : Nat} {s s' : cS} {ct ct' : Nat → List Nat} {hd : List Nat} {w : Wd} {pe : Nat → Int} {v : Nat → Int} {y : Nat → Nat → Option (List Nat)} {p : List (List Nat)} {x : Nat → Nat → Nat} {pn : Int}
/-- of a node's rows nothing changes -/
def nfx (g H n : Nat) (s s' : cS) : Prop := cn s ≤ cn s' ∧ (∀ a, a < cn s → cK s' a = cK s a ∧ cL s' a = cL s a) ∧ (∀ k o, o < 24 → o ≠ 10 → cI s' k (nd g n + o) = cI s k (nd g n + o)) ∧ (∀ k, k = 14 ∨ k = 15 → cR s' k (nd g n) = cR s k (nd g n)) ∧ (∀ o, o < 24 → o ≠ 10 → cA s' (nd g n + o) = cA s (nd g n + o)) ∧ (∀ o, o < 24 → o ≠ 10 → cJ s' (nd g n + o) = cJ s (nd g n + o) ∧ cP s' (nd g n + o) = cP s (nd g n + o)) ∧ ∀ i r, i < 284 → cP s (nd g n + 2) i = some r → nd g H ≤ r → r < cn s → cK s r = 20 → cK s (r - 2) ≠ 5 → cA s' r = cA s r
theorem CN.fx (h : CN g H T s ct n v y p x pn) (hf : nfx g H n s s') : CN g H T s' ct n v y p x pn := by
  obtain ⟨f1, f2, f3, f4, f5, f6, f7⟩ := hf
  obtain ⟨c1, c2, c3, c4, c5, c6, ⟨z, c7, c7'⟩, c8, c9, c10, c11, c12, c13, c14⟩ := h
  have i0 : ∀ k, cI s' k (nd g n) = cI s k (nd g n) := fun k => f3 k 0 (by decide) (by decide)
  refine ⟨?_, ?_, ?_, ?_, ?_, ?_, ⟨z, ?_, c7'⟩, ?_, ?_, ?_, ?_, ?_, ?_, ?_⟩
  · unfold qN
    rw [i0, i0, i0, i0, i0, i0, i0, i0, i0, i0]
    exact c1
  · rw [f5 12 (by decide) (by decide)]
    exact c2
  · unfold qL
    rw [f3 5 1 (by decide) (by decide), f3 6 1 (by decide) (by decide), f3 7 1 (by decide) (by decide), f3 8 1 (by decide) (by decide), f3 9 1 (by decide) (by decide)]
    exact c3
  · intro i hi
    obtain ⟨x1, x2, x3, x4⟩ := c4 i hi
    rw [f5 3 (by decide) (by decide), (f6 2 (by decide) (by decide)).2]
    refine ⟨x1, x2, x3, fun r hr => ?_⟩
    obtain ⟨y1, y2, y3, y4, y5, y6⟩ := x4 r hr
    refine ⟨y1, by omega, by rw [(f2 r y2).1]; exact y3, by rw [(f2 r y2).2]; exact y4, by rw [(f2 (r - 2) (by omega)).1]; exact y5, ?_⟩
    rw [f7 i r hi hr y1 y2 y3 y5]
    exact y6
  · rw [f5 5 (by decide) (by decide)]
    exact c5
  · unfold qB bkC rtC
    have a7 : cA s' (nd g n + 6 + 1) = cA s (nd g n + 6 + 1) := f5 7 (by decide) (by decide)
    have a8 : cA s' (nd g n + 6 + 2) = cA s (nd g n + 6 + 2) := f5 8 (by decide) (by decide)
    have a9 : cA s' (nd g n + 6 + 3) = cA s (nd g n + 6 + 3) := f5 9 (by decide) (by decide)
    rw [a7, a8, a9, f5 11 (by decide) (by decide), f3 2 6 (by decide) (by decide), f3 5 6 (by decide) (by decide)]
    exact c6
  · unfold qH
    rw [(f6 15 (by decide) (by decide)).2, (f6 19 (by decide) (by decide)).2, f5 16 (by decide) (by decide), f5 17 (by decide) (by decide)]
    exact c7
  · unfold qD
    rw [(f6 20 (by decide) (by decide)).2, f5 21 (by decide) (by decide), f3 11 14 (by decide) (by decide)]
    exact c8
  · unfold qS_
    rw [(f6 22 (by decide) (by decide)).2, (f6 23 (by decide) (by decide)).2, f3 13 14 (by decide) (by decide)]
    exact c9
  · unfold qP
    rw [(f6 18 (by decide) (by decide)).1, f3 12 14 (by decide) (by decide)]
    exact c10
  · unfold qK
    rw [f4 14 (Or.inl rfl), f4 15 (Or.inr rfl)]
    refine ⟨c11.1, c11.2.1, fun k a hk ha => ?_⟩
    rw [f4 k hk] at ha
    exact c11.2.2 k a hk ha
  · unfold qA
    rw [(f6 13 (by decide) (by decide)).2]
    exact c12
  · rw [f3 1 14 (by decide) (by decide)]
    exact c13
  · rw [f5 4 (by decide) (by decide)]
    exact c14
theorem map_ct {x : Option Nat} (h : ∀ a, x = some a → ct' a = ct a) : x.map ct' = x.map ct := by
  cases x with
  | none => rfl
  | some a =>
    show some (ct' a) = some (ct a)
    rw [h a rfl]
theorem vqC_lt {c p r k : Nat} (hc : c ≤ 1) (hp : p ≤ 1) (hr : r < 16) (hk : k < T) : vqC T c p r k < 64 * T := by
  unfold vqC
  have : (2 * (16 * p + r) + c) * T + T ≤ 64 * T := by
    rw [← Nat.succ_mul]
    exact Nat.mul_le_mul_right _ (by omega)
  omega
/-- contents that no place tells -/
theorem CN.cc (h : CN g H T s ct n v y p x pn) (hn : n < H) (hc : ∀ a, 1 ≤ cnA g H T s a → ct' a = ct a) : CN g H T s ct' n v y p x pn := by
  obtain ⟨c1, c2, c3, c4, c5, c6, ⟨z, ⟨d1, d2, d3, d4⟩, c7'⟩, ⟨e1, e2, e3⟩, ⟨f1, f2, f3⟩, c10, ⟨k1, k2, k3⟩, c12, c13⟩ := h
  have row : ∀ e i, e < 6 → i < plN T e → (cP s (nd g n + plO e) i).map ct' = (cP s (nd g n + plO e) i).map ct := fun e i he hi => map_ct (fun a ha => hc a (cnA_hr hn he hi ha))
  have fld : ∀ k, k = 14 ∨ k = 15 → (cR s k (nd g n)).map (fun a => (ct' a).drop 6) = (cR s k (nd g n)).map (fun a => (ct a).drop 6) := fun k hk => map_ct (ct' := fun a => (ct' a).drop 6) (ct := fun a => (ct a).drop 6) (fun a ha => by
    show (ct' a).drop 6 = (ct a).drop 6
    rw [hc a (cnA_hf hn hk ha)])
  refine ⟨c1, c2, c3, c4, c5, c6, ⟨z, ⟨fun i hi => (row 0 i (by decide) hi).trans (d1 i hi), fun c p r k a1 a2 a3 a4 => (row 1 _ (by decide) (vqC_lt a1 a2 a3 a4)).trans (d2 c p r k a1 a2 a3 a4), d3, d4⟩, c7'⟩, ⟨fun k hk => (row 2 k (by decide) hk).trans (e1 k hk), e2, e3⟩, ⟨fun k hk => (row 3 k (by decide) hk).trans (f1 k hk), fun k hk => (row 4 k (by decide) hk).trans (f2 k hk), f3⟩, c10, ⟨(fld 14 (Or.inl rfl)).trans k1, (fld 15 (Or.inr rfl)).trans k2, fun k a hk ha => ?_⟩, fun j a hj ha => ?_, c13⟩
  · rw [hc a (cnA_hf hn hk ha)]
    exact k3 k a hk ha
  · obtain ⟨h, x, z1, z2, z3, z4, z5, z6⟩ := c12 j a hj ha
    exact ⟨h, x, z1, z2, z3, z4, z5, by rw [hc a (cnA_hr (e := 5) hn (by decide) hj ha)]; exact z6⟩
theorem kSk.cc {k : Sk} {tm : Nat} (h : kSk g s ct k tm) (hc : ∀ a, 1 ≤ cnA g H T s a → ct' a = ct a) : kSk g s ct' k tm := by
  obtain ⟨⟨ld, t, a1, a2, a3⟩, a4⟩ := h
  refine ⟨⟨ld, t, a1, fun i hi => ?_, a3⟩, a4⟩
  have q := a1.2.2.2.2.2.2 i hi
  rw [hc (ld i) (cnA_hs (a1.2.2.2.2.1 i (by have := a1.2.1; omega)) q.2.2.2)]
  exact a2 i hi
theorem CE.cc (h : CE F g H T s ct w pe) (hc : ∀ a, 1 ≤ cnA g H T s a → ct' a = ct a) : CE F g H T s ct' w pe := ⟨h.1, h.2.1.cc hc, h.2.2.1, h.2.2.2.1, h.2.2.2.2.1, fun n hn => (h.2.2.2.2.2 n hn).cc hn hc⟩
/-- messages alone are written -/
theorem mfr.nfx (h : mfr g H s s') (hn : n < H) : nfx g H n s s' := by
  obtain ⟨f1, f2, f3, f4, f5, f6⟩ := h
  have l : ∀ o, o < 24 → nd g n + o < nd g H := fun o ho => by unfold nd; omega
  exact ⟨f1, f2, fun k o ho _ => f3 k _ (l o ho), fun k hk => f4 k _ (l 0 (by decide)) (Or.inr (by omega)), fun o ho _ => (f5 _ (l o ho)).1, fun o ho _ => (f5 _ (l o ho)).2, fun _ r _ _ r1 r2 r3 r4 => f6 r r1 r2 r3 r4⟩
theorem CE.mf (h : CE F g H T s ct w pe) (hf : mfr g H s s') : CE F g H T s' ct w pe := by
  obtain ⟨h1, h2, h3, h4, h5, h6⟩ := h
  have hn := fun n hn => hf.nfx (n := n) hn
  obtain ⟨f1, f2, f3, f4, f5, f6⟩ := hf
  have l : ∀ o, o ≤ 30 → g + o < nd g H := fun o ho => by unfold nd; omega
  refine ⟨?_, ?_, ?_, ?_, ?_, fun n hn' => (h6 n hn').fx (hn n hn')⟩
  · unfold kFx
    rw [f3 _ _ (l 8 (by decide)), f3 _ _ (l 8 (by decide)), f3 _ _ (l 8 (by decide)), f3 _ _ (l 8 (by decide)), f3 _ _ (l 9 (by decide))]
    exact h1
  · unfold kSk cSkT
    rw [f3 _ _ (l 11 (by decide)), f3 _ _ (l 11 (by decide)), f3 _ _ (l 11 (by decide)), f3 _ _ (l 11 (by decide)), f3 _ _ (l 11 (by decide)), (f5 _ (l 12 (by decide))).1, (f5 _ (l 13 (by decide))).1, (f5 _ (l 14 (by decide))).1, (f5 _ (l 15 (by decide))).1, (f5 _ (l 16 (by decide))).1, (f5 _ (l 17 (by decide))).2.2]
    exact h2
  · unfold kTp
    have e0 : cI s' 3 g = cI s 3 g := f3 3 g (l 0 (by decide))
    rw [e0, (f5 _ (l 1 (by decide))).1]
    exact h3
  · unfold kLa bkC rtC
    rw [(f5 _ (l 24 (by decide))).1, (f5 _ (l 25 (by decide))).1, (f5 _ (l 26 (by decide))).1, f3 _ _ (l 23 (by decide)), f3 _ _ (l 23 (by decide))]
    exact h4
  · intro n i n' i' r a1 a2 a3 a4 a5 a6
    rw [(f5 _ (by unfold nd; omega)).2.2] at a5 a6
    exact h5 n i n' i' r a1 a2 a3 a4 a5 a6
end
end
