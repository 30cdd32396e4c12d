section
/-! BYTES AS LISTS OF NUMBERS -/
def bg (b : List Nat) (i : Nat) : Nat := b.getD i 0
def isB (b : List Nat) : Prop := ∀ i, bg b i < 256
theorem bg_get {b : List Nat} {i : Nat} (h : i < b.length) : bg b i = b[i] := by
  unfold bg
  simp [h]
theorem bg_out {b : List Nat} {i : Nat} (h : b.length ≤ i) : bg b i = 0 := by
  unfold bg
  simp [h]
theorem by_ext {a b : List Nat} (hl : a.length = b.length) (h : ∀ i, i < a.length → bg a i = bg b i) : a = b :=
  List.ext_getElem hl (fun i h1 h2 => by rw [← bg_get h1, ← bg_get h2]; exact h i h1)
def mkB (n : Nat) (f : Nat → Nat) : List Nat := (List.range n).map f
theorem mkB_len (n : Nat) (f : Nat → Nat) : (mkB n f).length = n := by simp [mkB]
theorem mkB_bg (n : Nat) (f : Nat → Nat) (i : Nat) : bg (mkB n f) i = if i < n then f i else 0 := by
  by_cases h : i < n
  · rw [if_pos h, bg_get (by rw [mkB_len]; exact h)]
    simp [mkB]
  · rw [if_neg h, bg_out (by rw [mkB_len]; omega)]
theorem mkB_in {n : Nat} {f : Nat → Nat} {i : Nat} (h : i < n) : bg (mkB n f) i = f i := by rw [mkB_bg, if_pos h]
theorem mkB_congr {n : Nat} {f h : Nat → Nat} (e : ∀ i, i < n → f i = h i) : mkB n f = mkB n h :=
  by_ext (by rw [mkB_len, mkB_len]) (fun i hi => by
    rw [mkB_len] at hi
    rw [mkB_in hi, mkB_in hi, e i hi])
theorem mkB_self (b : List Nat) : mkB b.length (bg b) = b :=
  by_ext (mkB_len _ _) (fun i hi => by
    rw [mkB_len] at hi
    rw [mkB_in hi])
theorem bg_app (a b : List Nat) (i : Nat) : bg (a ++ b) i = if i < a.length then bg a i else bg b (i - a.length) := by
  unfold bg
  by_cases h : i < a.length
  · simp [h, List.getElem?_append_left]
  · simp [h, List.getElem?_append_right (by omega : a.length ≤ i)]
theorem bg_one (x i : Nat) : bg [x] i = if i = 0 then x else 0 := by
  cases i with
  | zero => rfl
  | succ i => simp [bg]
theorem bg_cons (x : Nat) (b : List Nat) (i : Nat) : bg (x :: b) i = if i = 0 then x else bg b (i - 1) := by
  cases i with
  | zero => rfl
  | succ i => simp [bg]
theorem bg_snoc (b : List Nat) (x i : Nat) : bg (b ++ [x]) i = if i < b.length then bg b i else if i = b.length then x else 0 := by
  rw [bg_app]
  by_cases h : i < b.length
  · rw [if_pos h, if_pos h]
  · rw [if_neg h, if_neg h, bg_one]
    by_cases e : i = b.length
    · rw [if_pos e, if_pos (by omega)]
    · rw [if_neg e, if_neg (by omega)]
theorem bg_drop (b : List Nat) (k i : Nat) : bg (b.drop k) i = bg b (k + i) := by
  unfold bg
  simp
theorem bg_nil (i : Nat) : bg [] i = 0 := by simp [bg]
/-- n bytes from place i on -/
def sl (b : List Nat) (i n : Nat) : List Nat := mkB n (fun k => bg b (i + k))
theorem sl_len (b : List Nat) (i n : Nat) : (sl b i n).length = n := mkB_len _ _
theorem sl_bg (b : List Nat) (i n k : Nat) : bg (sl b i n) k = if k < n then bg b (i + k) else 0 := mkB_bg _ _ _
theorem sl_in {b : List Nat} {i n k : Nat} (h : k < n) : bg (sl b i n) k = bg b (i + k) := mkB_in h
theorem isB_nil : isB [] := fun i => by rw [bg_nil]; omega
theorem isB_app {a b : List Nat} (ha : isB a) (hb : isB b) : isB (a ++ b) := fun i => by
  rw [bg_app]
  by_cases h : i < a.length
  · rw [if_pos h]; exact ha i
  · rw [if_neg h]; exact hb _
theorem isB_one {x : Nat} (h : x < 256) : isB [x] := fun i => by
  rw [bg_one]
  by_cases e : i = 0
  · rw [if_pos e]; exact h
  · rw [if_neg e]; omega
theorem isB_drop {b : List Nat} (h : isB b) (k : Nat) : isB (b.drop k) := fun i => by rw [bg_drop]; exact h _
theorem isB_mk {n : Nat} {f : Nat → Nat} (h : ∀ i, i < n → f i < 256) : isB (mkB n f) := fun i => by
  rw [mkB_bg]
  by_cases e : i < n
  · rw [if_pos e]; exact h i e
  · rw [if_neg e]; omega
theorem isB_sl {b : List Nat} (h : isB b) (i n : Nat) : isB (sl b i n) := isB_mk fun k _ => h _
/-- two bytes -/
def tw (b : List Nat) (i : Nat) : Nat := 256 * bg b i + bg b (i + 1)
theorem tw_lt {b : List Nat} (h : isB b) (i : Nat) : tw b i < 65536 := by
  have h1 := h i
  have h2 := h (i + 1)
  unfold tw
  omega
/-- the digest of bytes -/
def shaB (b : List Nat) : List Nat := mkB 32 (fun k => nb (dig (sha (fun i => nI (bg b i)) b.length) k))
theorem dig_255 (v : V8) (k : Nat) : dig v k &&& nI 255 = dig v k := by
  unfold dig
  rw [Int32.and_assoc, Int32.and_self]
theorem shaB_len (b : List Nat) : (shaB b).length = 32 := mkB_len _ _
theorem shaB_B (b : List Nat) : isB (shaB b) := isB_mk fun k _ => (nb_spec _).1
theorem shaB_bg (b : List Nat) {k : Nat} (hk : k < 32) : nI (bg (shaB b) k) = dig (sha (fun i => nI (bg b i)) b.length) k := by
  unfold shaB
  rw [mkB_in hk, ← (nb_spec _).2, dig_255]
theorem shaB_of {f : Nat → Int32} {b : List Nat} {n k : Nat} (hn : n = b.length) (h : ∀ i, i < n → f i = nI (bg b i)) (hk : k < 32) : dig (sha f n) k = nI (bg (shaB b) k) := by
  rw [shaB_bg b hk, ← hn, sha_congr h]
/-- the tree over parts -/
def pg (ps : List (List Nat)) (p : Nat) : List Nat := ps.getD p []
def lfP (ps : List (List Nat)) (p k : Nat) : Int32 := nI (bg (shaB (0 :: pg ps p)) k)
def rootP (ps : List (List Nat)) : List Nat := mkB 32 (fun k => if ps.length = 0 then 0 else nb (topL (lfP ps) ps.length k))
theorem n_255 {a : Nat} (h : a < 256) : nI a &&& nI 255 = nI a := by rw [n_and, Nat.mod_eq_of_lt h]
theorem topL_255 : ∀ (n : Nat) (lv : Nat → Nat → Int32), (∀ i k, lv i k &&& nI 255 = lv i k) → ∀ k, topL lv n k &&& nI 255 = topL lv n k := by
  intro n
  induction n using Nat.strongRecOn with
  | ind n ih =>
    intro lv h k
    by_cases h1 : n ≤ 1
    · rw [topL_lo h1]; exact h 0 k
    · rw [topL_hi h1]
      refine ih _ (by omega) _ (fun i k => ?_) k
      unfold nextL
      by_cases c : i < n / 2
      · rw [if_pos c]; exact dig_255 _ _
      · rw [if_neg c]; exact h _ _
theorem lfP_255 (ps : List (List Nat)) (p k : Nat) : lfP ps p k &&& nI 255 = lfP ps p k := n_255 (shaB_B _ k)
theorem rootP_len (ps : List (List Nat)) : (rootP ps).length = 32 := mkB_len _ _
theorem rootP_B (ps : List (List Nat)) : isB (rootP ps) := isB_mk fun k _ => by
  by_cases e : ps.length = 0
  · rw [if_pos e]; omega
  · rw [if_neg e]; exact (nb_spec _).1
theorem rootP_bg (ps : List (List Nat)) {k : Nat} (hk : k < 32) : nI (bg (rootP ps) k) = if ps.length = 0 then nI 0 else topL (lfP ps) ps.length k := by
  unfold rootP
  rw [mkB_in hk]
  by_cases e : ps.length = 0
  · rw [if_pos e, if_pos e]
  · rw [if_neg e, if_neg e, ← (nb_spec _).2, topL_255 _ _ (lfP_255 ps)]
theorem lfP_leafV {ps : List (List Nat)} {p k n : Nat} {f : Nat → Int32} (hn : n = (pg ps p).length) (h : ∀ i, i < n → f i = nI (bg (pg ps p) i)) (hk : k < 32) : dig (leafV f n) k = lfP ps p k := by
  unfold leafV lfP
  refine shaB_of (by simp [hn]) (fun i hi => ?_) hk
  unfold catB
  rw [bg_cons]
  by_cases e : i = 0
  · rw [if_pos e, if_pos e]
  · rw [if_neg e, if_neg e]; exact h _ (by omega)
theorem pg_snoc (ps : List (List Nat)) (x : List Nat) (p : Nat) : pg (ps ++ [x]) p = if p < ps.length then pg ps p else if p = ps.length then x else [] := by
  unfold pg
  by_cases h : p < ps.length
  · simp [h, List.getElem?_append_left]
  · by_cases e : p = ps.length
    · simp [e]
    · simp only [h, e, if_false]
      rw [List.getD_eq_getElem?_getD, List.getElem?_eq_none (by simp; omega)]
      rfl
end
