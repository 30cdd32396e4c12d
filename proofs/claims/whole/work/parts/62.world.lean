section
/-! THE WORLD: numbers by node and field, bytes by node, field and place, pools, sectors, the sky, ticks, the tape.
numbers: 0 up, 1 height, 2 round, 3 step, 4 locked round, 5 valid round, 6 7 8 been, 9 10 11 timers, 12 cut in, 13 notes, 14 written, 15 noted, 16 snap at, 17 logged; 32.. money, 48.. nonces, 64.. paid; 100.. whole sectors.
bytes: 0 locked, 1 valid (blocks), 2 proofs, 3 snapshots, 4 held proposals, 5 votes, 6 said (messages), 7 the chain (blocks), 8 own messages, 9 the last id -/
abbrev Wd : Type := (Nat → Nat → Int) × (Nat → Nat → Nat → Option (List Nat)) × (Nat → List (List Nat)) × (Nat → Nat → Nat → Nat) × Sk × Nat × List Nat
def wN (w : Wd) : Nat → Nat → Int := w.1
def wY (w : Wd) : Nat → Nat → Nat → Option (List Nat) := w.2.1
def wP (w : Wd) : Nat → List (List Nat) := w.2.2.1
def wX (w : Wd) : Nat → Nat → Nat → Nat := w.2.2.2.1
def wK (w : Wd) : Sk := w.2.2.2.2.1
def wT (w : Wd) : Nat := w.2.2.2.2.2.1
def wL (w : Wd) : List Nat := w.2.2.2.2.2.2
def sN (w : Wd) (n k : Nat) (v : Int) : Wd := (fun n' k' => if n' = n ∧ k' = k then v else w.1 n' k', w.2)
def sBy (w : Wd) (n f i : Nat) (o : Option (List Nat)) : Wd := (w.1, fun n' f' i' => if n' = n ∧ f' = f ∧ i' = i then o else w.2.1 n' f' i', w.2.2)
def sBr (w : Wd) (n f : Nat) (r : Nat → Option (List Nat)) : Wd := (w.1, fun n' f' i' => if n' = n ∧ f' = f then r i' else w.2.1 n' f' i', w.2.2)
def sNr (w : Wd) (n : Nat) (r : Nat → Int) : Wd := (fun n' k' => if n' = n then r k' else w.1 n' k', w.2)
def sP (w : Wd) (n : Nat) (l : List (List Nat)) : Wd := (w.1, w.2.1, fun n' => if n' = n then l else w.2.2.1 n', w.2.2.2)
def sX (w : Wd) (n : Nat) (r : Nat → Nat → Nat) : Wd := (w.1, w.2.1, w.2.2.1, fun n' => if n' = n then r else w.2.2.2.1 n', w.2.2.2.2)
def sK (w : Wd) (k : Sk) : Wd := (w.1, w.2.1, w.2.2.1, w.2.2.2.1, k, w.2.2.2.2.2)
def sT (w : Wd) (t : Nat) : Wd := (w.1, w.2.1, w.2.2.1, w.2.2.2.1, w.2.2.2.2.1, t, w.2.2.2.2.2.2)
def sL (w : Wd) (l : List Nat) : Wd := (w.1, w.2.1, w.2.2.1, w.2.2.2.1, w.2.2.2.2.1, w.2.2.2.2.2.1, l)
section
variable (w : Wd) (n k : Nat) (v : Int)
theorem N_s : wN (sN w n k v) n k = v := by
  show (if n = n ∧ k = k then v else _) = v
  rw [if_pos ⟨rfl, rfl⟩]
theorem N_o {n' k' : Nat} (h : n' ≠ n ∨ k' ≠ k) : wN (sN w n k v) n' k' = wN w n' k' := by
  show (if n' = n ∧ k' = k then v else _) = _
  rw [if_neg (by omega)]
  rfl
theorem B_s (f i : Nat) (o : Option (List Nat)) : wY (sBy w n f i o) n f i = o := by
  show (if n = n ∧ f = f ∧ i = i then o else _) = o
  rw [if_pos ⟨rfl, rfl, rfl⟩]
theorem B_o (f i : Nat) (o : Option (List Nat)) {n' f' i' : Nat} (h : n' ≠ n ∨ f' ≠ f ∨ i' ≠ i) : wY (sBy w n f i o) n' f' i' = wY w n' f' i' := by
  show (if n' = n ∧ f' = f ∧ i' = i then o else _) = _
  rw [if_neg (by omega)]
  rfl
end
/-! THE REFERENCE'S STATE TELLS A WORLD, of the first H nodes -/
def rna (k : Nat) : Nat := [43, 44, 45, 46, 47, 48, 49, 50, 51, 52, 52, 52, 75, 76, 77, 78, 79, 65].getD k 0
def rni (k n : Nat) : Nat := if 9 ≤ k ∧ k ≤ 11 then 3 * n + (k - 9) else n
def jN (H : Nat) (S : rS) (v : Nat → Nat → Int) : Prop := ∀ n k, n < H → k < 18 → S.2.1 (rna k) (rni k n) = iI (v n k)
def jW (H : Nat) (S : rS) (v : Nat → Nat → Int) : Prop := ∀ n s, n < H → s < 284 → S.2.1 74 (284 * n + s) = iI (v n (100 + s))
def jX (H : Nat) (S : rS) (x : Nat → Nat → Nat → Nat) : Prop := ∀ n s i, n < H → s < 284 → i < 512 → lby (S.2.2 73) (512 * (284 * n + s) + i) = nI (x n s i) ∧ x n s i < 256
def bOK (b : List Nat) : Prop := 101 ≤ b.length ∧ b.length ≤ 691 ∧ isB b
/-- a place holds a block, or none -/
def oR (S : rS) (p : Nat) (o : Option (List Nat)) : Prop := match o with
  | none => S.2.1 14 p = nI 0
  | some b => bR S p b ∧ bOK b
def hR (S : rS) (p : Nat) (o : Option (List Nat)) : Prop := oR S p (o.map (List.drop 6)) ∧ ∀ m, o = some m → S.2.1 59 p = iI (prV m)
def vR (S : rS) (p : Nat) (o : Option (List Nat)) : Prop := match o with
  | none => S.2.1 60 p = nI 0
  | some m => S.2.1 60 p = nI (1 + bg m 5) ∧ bg m 5 ≤ 1 ∧ idL (S.2.2 61 p) (S.2.2 62 p) (S.2.2 63 p) (S.2.2 64 p) (voD m)
def vix (n q : Nat) : Nat := if q < 416 then 416 * n + q else 5408 + 416 * n + (q - 416)
def jL (H : Nat) (S : rS) (b : Nat → Nat → Nat → Option (List Nat)) : Prop := ∀ n, n < H → oR S (1118 + n) (b n 0 0) ∧ oR S (1131 + n) (b n 1 0)
def jH (H : Nat) (S : rS) (b : Nat → Nat → Nat → Option (List Nat)) : Prop := ∀ n q, n < H → q < 32 → hR S (32 * n + q) (b n 4 q)
def jV (H : Nat) (S : rS) (b : Nat → Nat → Nat → Option (List Nat)) : Prop := ∀ n q, n < H → q < 832 → vR S (vix n q) (b n 5 q)
def jD (H : Nat) (S : rS) (b : Nat → Nat → Nat → Option (List Nat)) : Prop := ∀ n s, n < H → s < 13 → oR S (416 + 13 * n + s) ((b n 6 s).map (List.drop 1))
def jC (H : Nat) (S : rS) (b : Nat → Nat → Nat → Option (List Nat)) : Prop := ∀ n h, n < H → h < 41 → oR S (585 + 41 * n + h) (b n 7 h)
/-- own messages of this height -/
def jG (H : Nat) (S : rS) (v : Nat → Nat → Int) (b : Nat → Nat → Nat → Option (List Nat)) : Prop := ∀ (n i : Nat), n < H → (i : Int) < v n 17 → i < 64 ∧ ∃ m, b n 8 i = some m ∧ S.2.1 66 (64 * n + i) = nI (bg m 0) ∧ S.2.1 67 (64 * n + i) = nI (bg m 4) ∧ bg m 4 < 16 ∧ (bg m 0 = 1 → S.2.1 68 (64 * n + i) = iI (prV m) ∧ bR S (1144 + 16 * n + bg m 4) (m.drop 6) ∧ bOK (m.drop 6)) ∧ (bg m 0 ≠ 1 → (bg m 0 = 2 ∨ bg m 0 = 3) ∧ bg m 5 ≤ 1 ∧ S.2.1 69 (64 * n + i) = nI (bg m 5) ∧ idL (S.2.2 70 (4 * (64 * n + i))) (S.2.2 70 (4 * (64 * n + i) + 1)) (S.2.2 70 (4 * (64 * n + i) + 2)) (S.2.2 70 (4 * (64 * n + i) + 3)) (voD m))
def jP (H : Nat) (S : rS) (p : Nat → List (List Nat)) : Prop := ∀ n, n < H → S.2.1 53 n = nI (p n).length ∧ (p n).length ≤ 80 ∧ ∀ q, q < (p n).length → (pg (p n) q).length = 7 ∧ isB (pg (p n) q) ∧ ∀ k, k < 7 → S.2.1 54 (560 * n + 7 * q + k) = nI (bg (pg (p n) q) k)
def eR (S : rS) (p : Nat) (o : Option (List Nat)) : Prop := match o with
  | none => S.2.1 55 p = nI 0
  | some m => S.2.1 55 p = nI (m.length - 1) ∧ 2 ≤ m.length ∧ m.length ≤ 72 ∧ isB m ∧ ∀ i, i < m.length - 1 → S.2.1 56 (71 * p + i) = nI (bg m (i + 1))
def jE (H : Nat) (S : rS) (b : Nat → Nat → Nat → Option (List Nat)) : Prop := ∀ n s, n < H → s < 13 → eR S (13 * n + s) (b n 2 s)
def znR (S : rS) (p : Nat) (o : Option (List Nat)) : Prop := match o with
  | none => S.2.1 57 p = nI 0
  | some m => S.2.1 57 p = nI (tw m 1) ∧ 1 ≤ tw m 1 ∧ m.length = 115 ∧ isB m ∧ ∀ i, i < 115 → S.2.1 58 (115 * p + i) = nI (bg m i)
def jS (H : Nat) (S : rS) (b : Nat → Nat → Nat → Option (List Nat)) : Prop := ∀ n s, n < H → s < 13 → znR S (13 * n + s) (b n 3 s)
theorem oR.p {S S1 : rS} {p q : Nat} {o : Option (List Nat)} (h : oR S q o) (hp : pO1 p S S1) (hq : q ≠ p) : oR S1 q o := by
  cases o with
  | none =>
    show S1.2.1 14 q = nI 0
    rw [hp.1 q hq]
    exact h
  | some b =>
    obtain ⟨⟨h1, h2, h3⟩, h4⟩ := h
    refine ⟨⟨by rw [hp.1 q hq]; exact h1, fun i hi => ?_, fun k hk => ?_⟩, h4⟩
    · have := h4.2.1
      rw [hp.2.1 q i hq (by omega)]
      exact h2 i hi
    · rw [hp.2.2 q k hq hk]
      exact h3 k hk
theorem oR.fr {L : List Nat} {S S1 : rS} {q : Nat} {o : Option (List Nat)} (h : oR S q o) (hf : rfr L S S1) (h1 : 12 ∉ L) (h2 : 13 ∉ L) (h3 : 14 ∉ L) : oR S1 q o := h.p (p := q + 1) (pO1.fr hf h1 h2 h3) (by omega)
section
variable {H : Nat} {L : List Nat} {S S1 : rS} {v : Nat → Nat → Int} {x : Nat → Nat → Nat → Nat} {b : Nat → Nat → Nat → Option (List Nat)} {p : Nat → List (List Nat)}
theorem jN.fr (h : jN H S v) (hf : rfr L S S1) (hl : ∀ k ∈ [43, 44, 45, 46, 47, 48, 49, 50, 51, 52, 65, 75, 76, 77, 78, 79], k ∉ L) : jN H S1 v := fun n k hn hk => by
  rw [hf.a (rna k) (hl _ (by
    rcases (show k = 0 ∨ k = 1 ∨ k = 2 ∨ k = 3 ∨ k = 4 ∨ k = 5 ∨ k = 6 ∨ k = 7 ∨ k = 8 ∨ k = 9 ∨ k = 10 ∨ k = 11 ∨ k = 12 ∨ k = 13 ∨ k = 14 ∨ k = 15 ∨ k = 16 ∨ k = 17 by omega) with rfl | rfl | rfl | rfl | rfl | rfl | rfl | rfl | rfl | rfl | rfl | rfl | rfl | rfl | rfl | rfl | rfl | rfl <;> decide))]
  exact h n k hn hk
theorem jW.fr (h : jW H S v) (hf : rfr L S S1) (h1 : 74 ∉ L) : jW H S1 v := by unfold jW; rw [hf.a 74 h1]; exact h
theorem jX.fr (h : jX H S x) (hf : rfr L S S1) (h1 : 73 ∉ L) : jX H S1 x := by unfold jX; rw [hf.l 73 h1]; exact h
theorem jL.fr (h : jL H S b) (hf : rfr L S S1) (h1 : 12 ∉ L) (h2 : 13 ∉ L) (h3 : 14 ∉ L) : jL H S1 b := fun n hn => ⟨(h n hn).1.fr hf h1 h2 h3, (h n hn).2.fr hf h1 h2 h3⟩
theorem jH.fr (h : jH H S b) (hf : rfr L S S1) (h1 : 12 ∉ L) (h2 : 13 ∉ L) (h3 : 14 ∉ L) (h4 : 59 ∉ L) : jH H S1 b := fun n q hn hq => ⟨(h n q hn hq).1.fr hf h1 h2 h3, by rw [hf.a 59 h4]; exact (h n q hn hq).2⟩
theorem jV.fr (h : jV H S b) (hf : rfr L S S1) (h1 : 60 ∉ L) (h2 : 61 ∉ L) (h3 : 62 ∉ L) (h4 : 63 ∉ L) (h5 : 64 ∉ L) : jV H S1 b := by
  unfold jV vR
  rw [hf.a 60 h1, hf.l 61 h2, hf.l 62 h3, hf.l 63 h4, hf.l 64 h5]
  exact h
theorem jD.fr (h : jD H S b) (hf : rfr L S S1) (h1 : 12 ∉ L) (h2 : 13 ∉ L) (h3 : 14 ∉ L) : jD H S1 b := fun n s hn hs => (h n s hn hs).fr hf h1 h2 h3
theorem jC.fr (h : jC H S b) (hf : rfr L S S1) (h1 : 12 ∉ L) (h2 : 13 ∉ L) (h3 : 14 ∉ L) : jC H S1 b := fun n s hn hs => (h n s hn hs).fr hf h1 h2 h3
theorem bR.fr {q : Nat} {c : List Nat} (h : bR S q c) (hf : rfr L S S1) (h1 : 12 ∉ L) (h2 : 13 ∉ L) (h3 : 14 ∉ L) : bR S1 q c := by
  unfold bR wB dB
  rw [hf.l 12 h1, hf.l 13 h2, hf.a 14 h3]
  exact h
theorem jG.fr (h : jG H S v b) (hf : rfr L S S1) (h1 : 12 ∉ L) (h2 : 13 ∉ L) (h3 : 14 ∉ L) (h4 : ∀ k ∈ [66, 67, 68, 69, 70], k ∉ L) : jG H S1 v b := fun n i hn hi => by
  obtain ⟨a, m, a1, a2, a3, a4, a5, a6⟩ := h n i hn hi
  rw [hf.a 66 (h4 _ (by decide)), hf.a 67 (h4 _ (by decide)), hf.a 68 (h4 _ (by decide)), hf.a 69 (h4 _ (by decide)), hf.l 70 (h4 _ (by decide))]
  exact ⟨a, m, a1, a2, a3, a4, fun z => ⟨(a5 z).1, (a5 z).2.1.fr hf h1 h2 h3, (a5 z).2.2⟩, a6⟩
theorem jP.fr (h : jP H S p) (hf : rfr L S S1) (h1 : 53 ∉ L) (h2 : 54 ∉ L) : jP H S1 p := by unfold jP; rw [hf.a 53 h1, hf.a 54 h2]; exact h
theorem jE.fr (h : jE H S b) (hf : rfr L S S1) (h1 : 55 ∉ L) (h2 : 56 ∉ L) : jE H S1 b := by unfold jE eR; rw [hf.a 55 h1, hf.a 56 h2]; exact h
theorem jS.fr (h : jS H S b) (hf : rfr L S S1) (h1 : 57 ∉ L) (h2 : 58 ∉ L) : jS H S1 b := by unfold jS znR; rw [hf.a 57 h1, hf.a 58 h2]; exact h
end
end
