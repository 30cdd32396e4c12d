/-! BYTES OF LONGS -/
def byt (w : Int64) (k : Nat) : Int32 := (Int64.toInt32 (w >>> (Int32.toInt64 (nI 56 - nI 8 * nI k) &&& 63))) &&& nI 255
theorem byteIn_byt (N : Nat) (S : rS) (w : Int64) (k : Nat) : f_byteIn N S w (nI k) = byt w k := rfl
theorem l_ext {x y : Int64} (h : ∀ i, i < 64 → x.toBitVec.getLsbD i = y.toBitVec.getLsbD i) : x = y := by
  apply Int64.toBitVec_inj.mp
  apply BitVec.eq_of_getLsbD_eq
  intro i hi
  exact h i hi
theorem k8 {k : Nat} (h : k < 8) : k = 0 ∨ k = 1 ∨ k = 2 ∨ k = 3 ∨ k = 4 ∨ k = 5 ∨ k = 6 ∨ k = 7 := by omega
theorem shr_l (w : Int64) {k : Nat} (hk : k < 8) : (w >>> (Int32.toInt64 (nI 56 - nI 8 * nI k) &&& 63)).toBitVec = w.toBitVec.sshiftRight (56 - 8 * k) := by
  show w.toBitVec.sshiftRight' ((Int32.toInt64 (nI 56 - nI 8 * nI k) &&& 63).toBitVec.smod 64) = _
  have e : ((Int32.toInt64 (nI 56 - nI 8 * nI k) &&& 63).toBitVec.smod 64) = BitVec.ofNat 64 (56 - 8 * k) := by
    rcases k8 hk with rfl | rfl | rfl | rfl | rfl | rfl | rfl | rfl <;> decide
  rw [e]
  show w.toBitVec.sshiftRight (BitVec.ofNat 64 (56 - 8 * k)).toNat = _
  rw [BitVec.toNat_ofNat, Nat.mod_eq_of_lt (by omega)]
theorem byt_bit (w : Int64) {k i : Nat} (hk : k < 8) (hi : i < 32) : (byt w k).toBitVec.getLsbD i = (decide (i < 8) && w.toBitVec.getLsbD (56 - 8 * k + i)) := by
  unfold byt
  rw [Int32.toBitVec_and, BitVec.getLsbD_and, bit255, Bool.and_comm]
  by_cases h : i < 8
  · have e : (Int64.toInt32 (w >>> (Int32.toInt64 (nI 56 - nI 8 * nI k) &&& 63))).toBitVec.getLsbD i = (w >>> (Int32.toInt64 (nI 56 - nI 8 * nI k) &&& 63)).toBitVec.getLsbD i := by
      show ((w >>> (Int32.toInt64 (nI 56 - nI 8 * nI k) &&& 63)).toBitVec.signExtend 32).getLsbD i = _
      rw [BitVec.getLsbD_signExtend]
      simp [hi, show i < 64 by omega]
    rw [e, shr_l w hk, BitVec.getLsbD_sshiftRight]
    have h1 : ¬ 64 ≤ i := by omega
    have h2 : 56 - 8 * k + i < 64 := by omega
    simp [h, h1, h2]
  · simp [h]
theorem byt_ext {x y : Int64} (h : ∀ k, k < 8 → byt x k = byt y k) : x = y := by
  apply l_ext
  intro j hj
  have e := congrArg (fun z : Int32 => z.toBitVec.getLsbD (j % 8)) (h (7 - j / 8) (by omega))
  simp only [byt_bit x (show 7 - j / 8 < 8 by omega) (show j % 8 < 32 by omega), byt_bit y (show 7 - j / 8 < 8 by omega) (show j % 8 < 32 by omega)] at e
  have e8 : j % 8 < 8 := Nat.mod_lt _ (by decide)
  have ej : 56 - 8 * (7 - j / 8) + j % 8 = j := by omega
  rw [ej] at e
  simpa [e8] using e
theorem shr_i (x : Int32) {k : Nat} (hk : k < 4) : (x >>> ((nI 24 - nI 8 * nI k) &&& 31)).toBitVec = x.toBitVec.sshiftRight (24 - 8 * k) := by
  show x.toBitVec.sshiftRight' (((nI 24 - nI 8 * nI k) &&& 31).toBitVec.smod 32) = _
  have e : (((nI 24 - nI 8 * nI k) &&& 31).toBitVec.smod 32) = BitVec.ofNat 32 (24 - 8 * k) := by
    rcases (show k = 0 ∨ k = 1 ∨ k = 2 ∨ k = 3 by omega) with rfl | rfl | rfl | rfl <;> decide
  rw [e]
  show x.toBitVec.sshiftRight (BitVec.ofNat 32 (24 - 8 * k)).toNat = _
  rw [BitVec.toNat_ofNat, Nat.mod_eq_of_lt (by omega)]
theorem ib_bit (x : Int32) {k i : Nat} (hk : k < 4) (hi : i < 32) : ((x >>> ((nI 24 - nI 8 * nI k) &&& 31)) &&& nI 255).toBitVec.getLsbD i = (decide (i < 8) && x.toBitVec.getLsbD (24 - 8 * k + i)) := by
  rw [Int32.toBitVec_and, BitVec.getLsbD_and, bit255, Bool.and_comm]
  by_cases h : i < 8
  · rw [shr_i x hk, BitVec.getLsbD_sshiftRight]
    have h1 : ¬ 32 ≤ i := by omega
    have h2 : 24 - 8 * k + i < 32 := by omega
    simp [h, h1, h2]
  · simp [h]
/-- a long of two ints -/
def sm (q : Nat → Int32) (j : Nat) : Int64 := ((Int32.toInt64 (q (2 * j))) <<< (Int32.toInt64 (nI 32) &&& 63)) ||| ((Int32.toInt64 (q (2 * j + 1))) &&& (4294967295 : Int64))
theorem i2l_bit (x : Int32) {i : Nat} (hi : i < 64) : (Int32.toInt64 x).toBitVec.getLsbD i = if i < 32 then x.toBitVec.getLsbD i else x.toBitVec.msb := by
  show (x.toBitVec.signExtend 64).getLsbD i = _
  rw [BitVec.getLsbD_signExtend]
  simp [hi]
theorem lo32 {i : Nat} : (4294967295 : Int64).toBitVec.getLsbD i = decide (i < 32) := by
  rw [show (4294967295 : Int64).toBitVec = BitVec.ofNat 64 (2 ^ 32 - 1) from rfl, BitVec.getLsbD_ofNat, Nat.testBit_two_pow_sub_one]
  by_cases h : i < 32
  · simp [h]; omega
  · simp [h]
theorem sm_bit (q : Nat → Int32) (j : Nat) {i : Nat} (hi : i < 64) : (sm q j).toBitVec.getLsbD i = if i < 32 then (q (2 * j + 1)).toBitVec.getLsbD i else (q (2 * j)).toBitVec.getLsbD (i - 32) := by
  unfold sm
  have e : ((Int32.toInt64 (q (2 * j))) <<< (Int32.toInt64 (nI 32) &&& 63)).toBitVec = (Int32.toInt64 (q (2 * j))).toBitVec <<< 32 := by
    show (Int32.toInt64 (q (2 * j))).toBitVec <<< ((Int32.toInt64 (nI 32) &&& 63).toBitVec.smod 64) = _
    rw [show ((Int32.toInt64 (nI 32) &&& 63).toBitVec.smod 64) = 32#64 by decide]
    rfl
  rw [Int64.toBitVec_or, BitVec.getLsbD_or, e, BitVec.getLsbD_shiftLeft, Int64.toBitVec_and, BitVec.getLsbD_and, lo32]
  by_cases h : i < 32
  · simp only [h, if_true, decide_true, Bool.and_true, Bool.not_true, Bool.and_false, Bool.false_and, Bool.false_or]
    rw [i2l_bit _ hi, if_pos h]
  · simp only [h, if_false, decide_false, Bool.and_false, Bool.or_false, Bool.not_false, Bool.and_true, hi, decide_true, Bool.true_and]
    rw [i2l_bit _ (by omega), if_pos (by omega)]
theorem byt_sm (q : Nat → Int32) (j : Nat) {k : Nat} (hk : k < 8) : byt (sm q j) k = (q (2 * j + k / 4) >>> ((nI 24 - nI 8 * nI (k % 4)) &&& 31)) &&& nI 255 := by
  apply i_ext
  intro i hi
  rw [byt_bit _ hk hi, ib_bit _ (Nat.mod_lt _ (by decide)) hi]
  by_cases h : i < 8
  · rw [sm_bit _ _ (by omega)]
    by_cases h4 : k < 4
    · rw [if_neg (by omega), show k / 4 = 0 by omega, Nat.add_zero, show 56 - 8 * k + i - 32 = 24 - 8 * (k % 4) + i by omega]
    · rw [if_pos (by omega), show k / 4 = 1 by omega, show 56 - 8 * k + i = 24 - 8 * (k % 4) + i by omega]
  · simp [h]
theorem byt_dig {q : Nat → Int32} {i : Nat} (hi : i < 32) : byt (sm q (i / 8)) (i % 8) = dig (v8 q) i := by
  rw [byt_sm _ _ (Nat.mod_lt _ (by decide)), show 2 * (i / 8) + i % 8 / 4 = i / 4 by omega, show i % 8 % 4 = i % 4 by omega, v8_get (q := q) (k := i / 4) (by omega)]
  rfl
/-- bytes along a row of longs -/
def lby (f : Nat → Int64) (i : Nat) : Int32 := byt (f (i / 8)) (i % 8)
theorem byt_255 (w : Int64) (k : Nat) : byt w k &&& nI 255 = byt w k := by
  unfold byt
  rw [Int32.and_assoc, Int32.and_self]
theorem lby_255 (f : Nat → Int64) (i : Nat) : lby f i &&& nI 255 = lby f i := byt_255 _ _
/-- eight bytes make a long -/
def l8 (b : Nat → Int32) : Nat → Int64
  | 0 => 0
  | n + 1 => (l8 b n <<< (Int32.toInt64 (nI 8) &&& 63)) ||| Int32.toInt64 (b n)
theorem bit_hi {x : Int32} (h : x &&& nI 255 = x) {i : Nat} (hi : 8 ≤ i) : x.toBitVec.getLsbD i = false := by
  rw [← h, Int32.toBitVec_and, BitVec.getLsbD_and, bit255]
  simp [show ¬ i < 8 by omega]
theorem msb_lo {x : Int32} (h : x &&& nI 255 = x) : x.toBitVec.msb = false := by
  rw [BitVec.msb_eq_getLsbD_last]
  exact bit_hi h (by decide)
theorem l8_bit {b : Nat → Int32} (hb : ∀ k, b k &&& nI 255 = b k) : ∀ n, n ≤ 8 → ∀ j, j < 64 → (l8 b n).toBitVec.getLsbD j = (decide (j < 8 * n) && (b (n - 1 - j / 8)).toBitVec.getLsbD (j % 8))
  | 0, _, j, hj => by
    show (0 : Int64).toBitVec.getLsbD j = _
    rw [show (0 : Int64).toBitVec = 0#64 from rfl]
    simp
  | n + 1, hn, j, hj => by
    show ((l8 b n <<< (Int32.toInt64 (nI 8) &&& 63)) ||| Int32.toInt64 (b n)).toBitVec.getLsbD j = _
    have e : (l8 b n <<< (Int32.toInt64 (nI 8) &&& 63)).toBitVec = (l8 b n).toBitVec <<< 8 := by
      show (l8 b n).toBitVec <<< ((Int32.toInt64 (nI 8) &&& 63).toBitVec.smod 64) = _
      rw [show ((Int32.toInt64 (nI 8) &&& 63).toBitVec.smod 64) = 8#64 by decide]
      rfl
    rw [Int64.toBitVec_or, BitVec.getLsbD_or, e, BitVec.getLsbD_shiftLeft, i2l_bit _ hj, msb_lo (hb n)]
    by_cases h8 : j < 8
    · have e1 : j / 8 = 0 := by omega
      have e2 : j % 8 = j := by omega
      simp [h8, e1, e2, show j < 32 by omega, show j < 8 * (n + 1) by omega]
    · have hz : (if j < 32 then (b n).toBitVec.getLsbD j else false) = false := by
        by_cases h : j < 32
        · rw [if_pos h]; exact bit_hi (hb n) (by omega)
        · rw [if_neg h]
      rw [hz, l8_bit hb n (by omega) (j - 8) (by omega)]
      have e1 : (j - 8) / 8 = j / 8 - 1 := by omega
      have e2 : (j - 8) % 8 = j % 8 := by omega
      by_cases hd : j < 8 * (n + 1)
      · have e3 : n - 1 - (j / 8 - 1) = n + 1 - 1 - j / 8 := by omega
        simp [h8, hj, e1, e2, hd, show j - 8 < 8 * n by omega, e3]
      · simp [h8, hd, show ¬ j - 8 < 8 * n by omega]
theorem byt_l8 {b : Nat → Int32} (hb : ∀ k, b k &&& nI 255 = b k) {k : Nat} (hk : k < 8) : byt (l8 b 8) k = b k := by
  apply i_ext
  intro i hi
  rw [byt_bit _ hk hi]
  by_cases h : i < 8
  · rw [l8_bit hb 8 (by decide) _ (by omega)]
    have e1 : (56 - 8 * k + i) / 8 = 7 - k := by omega
    have e2 : (56 - 8 * k + i) % 8 = i := by omega
    have e3 : 8 - 1 - (7 - k) = k := by omega
    rw [e1, e2, e3]
    simp [h, show 56 - 8 * k + i < 8 * 8 by omega]
  · rw [bit_hi (hb k) (by omega)]
    simp [h]
theorem l8_congr {b b' : Nat → Int32} : ∀ n, (∀ k, k < n → b k = b' k) → l8 b n = l8 b' n
  | 0, _ => rfl
  | n + 1, h => by
    unfold l8
    rw [l8_congr n (fun k hk => h k (by omega)), h n (by omega)]
theorem l8_byt (w : Int64) : l8 (byt w) 8 = w := byt_ext fun k hk => byt_l8 (fun k => byt_255 w k) hk
/-- one byte of a long is set -/
def sby (w : Int64) (k : Nat) (x : Int32) : Int64 := (w &&& (((255 : Int64) <<< (Int32.toInt64 (nI 56 - nI 8 * nI k) &&& 63)) ^^^ (-1 : Int64))) ||| ((Int32.toInt64 (x &&& nI 255)) <<< (Int32.toInt64 (nI 56 - nI 8 * nI k) &&& 63))
theorem shl_l (w : Int64) {k : Nat} (hk : k < 8) : (w <<< (Int32.toInt64 (nI 56 - nI 8 * nI k) &&& 63)).toBitVec = w.toBitVec <<< (56 - 8 * k) := by
  show w.toBitVec <<< ((Int32.toInt64 (nI 56 - nI 8 * nI k) &&& 63).toBitVec.smod 64) = _
  have e : ((Int32.toInt64 (nI 56 - nI 8 * nI k) &&& 63).toBitVec.smod 64) = BitVec.ofNat 64 (56 - 8 * k) := by
    rcases k8 hk with rfl | rfl | rfl | rfl | rfl | rfl | rfl | rfl <;> decide
  rw [e]
  show w.toBitVec <<< (BitVec.ofNat 64 (56 - 8 * k)).toNat = _
  rw [BitVec.toNat_ofNat, Nat.mod_eq_of_lt (by omega)]
theorem l255 {i : Nat} : (255 : Int64).toBitVec.getLsbD i = decide (i < 8) := by
  rw [show (255 : Int64).toBitVec = BitVec.ofNat 64 (2 ^ 8 - 1) from rfl, BitVec.getLsbD_ofNat, Nat.testBit_two_pow_sub_one]
  by_cases h : i < 8
  · simp [h]; omega
  · simp [h]
theorem lones {i : Nat} (hi : i < 64) : (-1 : Int64).toBitVec.getLsbD i = true := by
  rw [show (-1 : Int64).toBitVec = BitVec.allOnes 64 by decide, BitVec.getLsbD_allOnes]
  simp [hi]
theorem byt_sby (w : Int64) (x : Int32) {k k' : Nat} (hk : k < 8) (hk' : k' < 8) : byt (sby w k x) k' = if k' = k then x &&& nI 255 else byt w k' := by
  have hx : (x &&& nI 255) &&& nI 255 = x &&& nI 255 := by rw [Int32.and_assoc, Int32.and_self]
  have hbit : ∀ j, j < 64 → (sby w k x).toBitVec.getLsbD j = if 56 - 8 * k ≤ j ∧ j < 64 - 8 * k then (x &&& nI 255).toBitVec.getLsbD (j - (56 - 8 * k)) else w.toBitVec.getLsbD j := fun j hj => by
    unfold sby
    rw [Int64.toBitVec_or, BitVec.getLsbD_or, Int64.toBitVec_and, BitVec.getLsbD_and, Int64.toBitVec_xor, BitVec.getLsbD_xor, shl_l _ hk, shl_l _ hk, BitVec.getLsbD_shiftLeft, BitVec.getLsbD_shiftLeft, l255, lones hj]
    by_cases h1 : 56 - 8 * k ≤ j
    · by_cases h2 : j < 64 - 8 * k
      · rw [if_pos ⟨h1, h2⟩, i2l_bit _ (by omega), if_pos (by omega)]
        simp [hj, show ¬ j < 56 - 8 * k by omega, show j - (56 - 8 * k) < 8 by omega]
      · rw [if_neg (by omega), i2l_bit _ (by omega), msb_lo hx]
        have hz : (if j - (56 - 8 * k) < 32 then (x &&& nI 255).toBitVec.getLsbD (j - (56 - 8 * k)) else false) = false := by
          by_cases h : j - (56 - 8 * k) < 32
          · rw [if_pos h]; exact bit_hi hx (by omega)
          · rw [if_neg h]
        rw [hz]
        simp [show ¬ j - (56 - 8 * k) < 8 by omega]
    · rw [if_neg (by omega)]
      simp [show j < 56 - 8 * k by omega]
  apply i_ext
  intro i hi
  rw [byt_bit _ hk' hi]
  by_cases h : i < 8
  · rw [hbit _ (by omega)]
    by_cases e : k' = k
    · subst e
      rw [if_pos rfl, if_pos (by omega), show 56 - 8 * k' + i - (56 - 8 * k') = i by omega]
      simp [h]
    · rw [if_neg e, if_neg (by omega), byt_bit _ hk' hi]
  · by_cases e : k' = k
    · rw [if_pos e, bit_hi hx (by omega)]
      simp [h]
    · rw [if_neg e, byt_bit _ hk' hi]
      simp [h]
theorem lby_set (f : Nat → Int64) (i j : Nat) (x : Int32) : lby (vp_updL f (i / 8) (sby (f (i / 8)) (i % 8) x)) j = if j = i then x &&& nI 255 else lby f j := by
  unfold lby vp_updL
  by_cases h : j / 8 = i / 8
  · rw [if_pos h, byt_sby _ _ (Nat.mod_lt _ (by decide)) (Nat.mod_lt _ (by decide))]
    by_cases e : j % 8 = i % 8
    · rw [if_pos e, if_pos (by omega)]
    · rw [if_neg e, if_neg (by omega), h]
  · rw [if_neg h, if_neg (by omega)]
