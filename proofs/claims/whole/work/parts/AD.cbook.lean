section
/-! THE CLASS'S BOOK: codes of payments, who has paid, what parts do -/
/-- two bytes of a long -/
theorem bit64k {i : Nat} : (65535 : Int32).toBitVec.getLsbD i = decide (i < 16) := by
  rw [show (65535 : Int32).toBitVec = BitVec.ofNat 32 (2 ^ 16 - 1) from rfl, BitVec.getLsbD_ofNat, Nat.testBit_two_pow_sub_one]
  by_cases h : i < 16
  · simp [h]; omega
  · simp [h]
theorem by2_bit (w : Int64) {k i : Nat} (hk : k < 8) (h1 : 1 ≤ k) (hi : i < 32) : ((Int64.toInt32 (w >>> (Int32.toInt64 (nI 56 - nI 8 * nI k) &&& 63))) &&& (65535 : Int32)).toBitVec.getLsbD i = (decide (i < 16) && w.toBitVec.getLsbD (56 - 8 * k + i)) := by
  rw [Int32.toBitVec_and, BitVec.getLsbD_and, bit64k, Bool.and_comm]
  by_cases h : i < 16
  · have e : (Int64.toInt32 (w >>> (Int32.toInt64 (nI 56 - nI 8 * nI k) &&& 63))).toBitVec.getLsbD i = (w >>> (Int32.toInt64 (nI 56 - nI 8 * nI k) &&& 63)).toBitVec.getLsbD i := by
      show ((w >>> (Int32.toInt64 (nI 56 - nI 8 * nI k) &&& 63)).toBitVec.signExtend 32).getLsbD i = _
      rw [BitVec.getLsbD_signExtend]
      simp [hi, show i < 64 by omega]
    rw [e, shr_l w hk, BitVec.getLsbD_sshiftRight]
    have h1 : ¬ 64 ≤ i := by omega
    have h2 : 56 - 8 * k + i < 64 := by omega
    simp [h, h1, h2]
  · simp [h]
theorem shl8_bit (x : Int32) {i : Nat} (hi : i < 32) : (x <<< (nI 8 &&& 31)).toBitVec.getLsbD i = (!decide (i < 8) && x.toBitVec.getLsbD (i - 8)) := by
  have e : (x <<< (nI 8 &&& 31)).toBitVec = x.toBitVec <<< 8 := by
    show x.toBitVec <<< ((nI 8 &&& 31).toBitVec.smod 32) = _
    rw [show ((nI 8 &&& 31).toBitVec.smod 32) = 8#32 by decide]
    rfl
  rw [e, BitVec.getLsbD_shiftLeft]
  simp [hi]
theorem by2_nI {w : Int64} {k a b : Nat} (hk : k < 8) (h1 : 1 ≤ k) (ha : a < 256) (hb : b < 256) (ea : byt w (k - 1) = nI a) (eb : byt w k = nI b) : (Int64.toInt32 (w >>> (Int32.toInt64 (nI 56 - nI 8 * nI k) &&& 63))) &&& (65535 : Int32) = nI (256 * a + b) := by
  have e : nI (256 * a + b) = (byt w (k - 1) <<< (nI 8 &&& 31)) ||| byt w k := by
    rw [ea, eb, n_shl (by decide)]
    exact (n_or (k := 8) (a := a) (b := b) (by omega) (by omega)).symm
  rw [e]
  apply i_ext
  intro i hi
  rw [by2_bit w hk h1 hi, Int32.toBitVec_or, BitVec.getLsbD_or, shl8_bit _ hi, byt_bit w hk hi]
  by_cases c : i < 8
  · simp [c, show i < 16 by omega]
  · rw [byt_bit w (show k - 1 < 8 by omega) (show i - 8 < 32 by omega)]
    by_cases d : i < 16
    · have e2 : 56 - 8 * (k - 1) + (i - 8) = 56 - 8 * k + i := by omega
      simp [c, d, show i - 8 < 8 by omega, e2]
    · simp [c, d, show ¬ i - 8 < 8 by omega]
/-- a code's bytes -/
theorem coD_byt {p : List Nat} (hp : isB p) {k : Nat} (hk : k < 8) : byt (coD p) k = if k = 0 then nI 0 else nI (bg p (k - 1)) := by
  have e : ∀ n, l8 (fun j => nI (bg p j)) n = l8 (fun j => if j = 0 then nI 0 else nI (bg p (j - 1))) (n + 1) := fun n => by
    induction n with
    | zero =>
      show (0 : Int64) = ((0 : Int64) <<< (Int32.toInt64 (nI 8) &&& 63)) ||| Int32.toInt64 (if 0 = 0 then nI 0 else nI (bg p (0 - 1)))
      rw [if_pos rfl]
      decide
    | succ n ih =>
      show (l8 (fun j => nI (bg p j)) n <<< (Int32.toInt64 (nI 8) &&& 63)) ||| Int32.toInt64 (nI (bg p n)) = (l8 (fun j => if j = 0 then nI 0 else nI (bg p (j - 1))) (n + 1) <<< (Int32.toInt64 (nI 8) &&& 63)) ||| Int32.toInt64 (if n + 1 = 0 then nI 0 else nI (bg p (n + 1 - 1)))
      rw [ih, if_neg (by omega)]
      rfl
  unfold coD
  rw [e 7, byt_l8 (b := fun j => if j = 0 then nI 0 else nI (bg p (j - 1))) (fun j => by
    show (if j = 0 then nI 0 else nI (bg p (j - 1))) &&& nI 255 = if j = 0 then nI 0 else nI (bg p (j - 1))
    split
    · decide
    · exact n_255 (hp _)) hk]
theorem coD_inj {p q : List Nat} (hp : isB p) (hq : isB q) (lp : p.length = 7) (lq : q.length = 7) (h : coD p = coD q) : p = q := by
  refine by_ext (by omega) (fun i hi => ?_)
  have e := congrArg (fun z => byt z (i + 1)) h
  have e' : byt (coD p) (i + 1) = byt (coD q) (i + 1) := e
  have z1 := hp i
  have z2 := hq i
  rw [coD_byt hp (by omega), coD_byt hq (by omega), if_neg (by omega), if_neg (by omega), show i + 1 - 1 = i by omega, n_eq' (by omega) (by omega)] at e'
  exact e'
section
variable {N g H T r a e i : Nat} {s : cS} {b p : List Nat}
theorem codeAt_ok (hN : 100 ≤ N) (hb : cB s r b) (ha : a + 7 ≤ b.length) : p_X0_codeAt N g H T s (some r) (nI a) ∧ k_X0_codeAt N g H T s (some r) (nI a) = coD (sl b a 7) := by
  have h1 := hb.1
  have h2 := hb.2.1
  show wp (KO_X0_codeAt_0 N g H T (some r) (nI a) s) (KF_X0_codeAt_0 N g H T (some r) (nI a) s) (fun v => v = coD (sl b a 7))
  unfold KO_X0_codeAt_0 KF_X0_codeAt_0
  refine wp_seq (Q := fun z : Nat × Int64 × Unit => z.2.1 = coD (sl b a 7)) ?_ (fun z hz => wp_fin trivial hz)
  refine wp_loop (K := 7) (fun j (x : Int64) => x = l8 (fun j => nI (bg (sl b a 7) j)) j) (fun n j x => KOL_X0_codeAt_5 N g H T n (some r) (nI a) x (nI (a + j)) s) (fun n j x => KL_X0_codeAt_5 N g H T n (some r) (nI a) x (nI (a + j)) s) (fun n j x hj hI ih => ?_) 0 N (0 : Int64) (by omega) (by omega) rfl
  unfold KOL_X0_codeAt_5 KL_X0_codeAt_5 KOB_X0_codeAt_5 KB_X0_codeAt_5
  rw [zsome r]
  have nn : nI a + nI 7 = nI (a + 7) := n_add _ _
  rw [nn]
  refine wp_neg (n_lt0 (by omega)) ?_
  by_cases ej : j = 7
  · refine wp_pos (by rw [n_le' (by omega) (by omega)]; omega) ?_
    subst ej
    exact wp_fin trivial hI
  · refine wp_neg (by rw [n_le' (by omega) (by omega)]; omega) (wp_and someN (wp_neg (by rw [n_le' (by omega) (by omega)]; omega) (wp_and ⟨someN, ((n_in (by omega)).2 (by omega))⟩ ?_)))
    rw [n_add, hb.an (a := a + j) (by omega)]
    have := ih ((x <<< (Int32.toInt64 (nI 8) &&& 63)) ||| Int32.toInt64 (nI (bg b (a + j)))) (by
      rw [hI]
      show _ = (l8 (fun j => nI (bg (sl b a 7) j)) j <<< (Int32.toInt64 (nI 8) &&& 63)) ||| Int32.toInt64 (nI (bg (sl b a 7) j))
      rw [sl_in (by omega)]) (by omega)
    exact this
end
/-- who has paid -/
theorem fin_bit (k : Bk) : ∀ n i, (smN (fun a => if k (32 + a) = 0 then 0 else 2 ^ a) n).testBit i = decide (i < n ∧ k (32 + i) ≠ 0) ∧ smN (fun a => if k (32 + a) = 0 then 0 else 2 ^ a) n < 2 ^ n
  | 0, i => ⟨by simp [smN], by simp [smN]⟩
  | n + 1, i => by
    obtain ⟨a1, a2⟩ := fin_bit k n i
    have u : smN (fun a => if k (32 + a) = 0 then 0 else 2 ^ a) (n + 1) = smN (fun a => if k (32 + a) = 0 then 0 else 2 ^ a) n + (if k (32 + n) = 0 then 0 else 2 ^ n) := rfl
    rw [u]
    have pw : 2 ^ (n + 1) = 2 ^ n + 2 ^ n := by rw [Nat.pow_succ]; omega
    by_cases c : k (32 + n) = 0
    · rw [if_pos c, Nat.add_zero, a1]
      refine ⟨?_, by omega⟩
      by_cases d : i < n
      · simp [d, show i < n + 1 by omega]
      · by_cases e : i = n
        · subst e
          simp [c]
        · simp [d, show ¬ i < n + 1 by omega]
    · rw [if_neg c, Nat.add_comm]
      refine ⟨?_, by omega⟩
      by_cases d : i < n
      · rw [Nat.testBit_two_pow_add_gt d, a1]
        simp [d, show i < n + 1 by omega]
      · by_cases e : i = n
        · subst e
          rw [Nat.testBit_two_pow_add_eq, a1]
          simp [c]
        · have : 2 ^ n + smN (fun a => if k (32 + a) = 0 then 0 else 2 ^ a) n < 2 ^ i := Nat.lt_of_lt_of_le (by omega) (Nat.pow_le_pow_right (by decide) (show n + 1 ≤ i by omega))
          rw [Nat.testBit_lt_two_pow this]
          simp [show ¬ i < n + 1 by omega]
theorem finB_bit (k : Bk) (i : Nat) : (finB k).testBit i = decide (i < 16 ∧ k (32 + i) ≠ 0) := (fin_bit k 16 i).1
theorem finB_lt (k : Bk) : finB k < 65536 := (fin_bit k 16 0).2
theorem n_shr1 {a k : Nat} (ha : a < 2 ^ 31) (hk : k < 16) : (nI a >>> (nI k &&& 31)) &&& nI 1 = nI (if a.testBit k then 1 else 0) := by
  have e : nI a >>> (nI k &&& 31) = nI (a / 2 ^ k) := by
    apply Int32.toBitVec_inj.mp
    show (nI a).toBitVec.sshiftRight' ((nI k &&& 31).toBitVec.smod 32) = _
    have e1 : ((nI k &&& 31).toBitVec.smod 32) = BitVec.ofNat 32 k := by
      rcases (show k = 0 ∨ k = 1 ∨ k = 2 ∨ k = 3 ∨ k = 4 ∨ k = 5 ∨ k = 6 ∨ k = 7 ∨ k = 8 ∨ k = 9 ∨ k = 10 ∨ k = 11 ∨ k = 12 ∨ k = 13 ∨ k = 14 ∨ k = 15 by omega) with rfl | rfl | rfl | rfl | rfl | rfl | rfl | rfl | rfl | rfl | rfl | rfl | rfl | rfl | rfl | rfl <;> decide
    rw [e1]
    show (nI a).toBitVec.sshiftRight (BitVec.ofNat 32 k).toNat = _
    rw [BitVec.toNat_ofNat, Nat.mod_eq_of_lt (by omega)]
    have m : (nI a).toBitVec.msb = false := by
      show (BitVec.ofNat 32 a).msb = false
      rw [BitVec.msb_eq_decide, BitVec.toNat_ofNat, Nat.mod_eq_of_lt (by omega)]
      simp
      omega
    rw [BitVec.sshiftRight_eq_of_msb_false m]
    apply BitVec.eq_of_toNat_eq
    show ((BitVec.ofNat 32 a) >>> k).toNat = (BitVec.ofNat 32 (a / 2 ^ k)).toNat
    have : a / 2 ^ k ≤ a := Nat.div_le_self _ _
    rw [BitVec.toNat_ushiftRight, BitVec.toNat_ofNat, BitVec.toNat_ofNat, Nat.mod_eq_of_lt (show a < 2 ^ 32 by omega), Nat.mod_eq_of_lt (show a / 2 ^ k < 2 ^ 32 by omega), Nat.shiftRight_eq_div_pow]
  rw [e, n_and1, Nat.testBit_eq_decide_div_mod_eq]
  by_cases c : a / 2 ^ k % 2 = 1
  · simp [c]
  · have c0 : a / 2 ^ k % 2 = 0 := by omega
    simp [c0]
theorem finB_or {k : Bk} {q : Nat} (hq : q < 16) : nI (finB k) ||| (nI 1 <<< (nI q &&& 31)) = nI (finB (bU k (32 + q) 1)) := by
  rw [n_shl (by omega), Nat.mul_one]
  have e : finB (bU k (32 + q) 1) = finB k ||| 2 ^ q := by
    apply Nat.eq_of_testBit_eq
    intro i
    rw [Nat.testBit_or, finB_bit, finB_bit, Nat.testBit_two_pow]
    by_cases c : i = q
    · subst c
      rw [bU_s]
      simp [hq]
    · rw [bU_o _ _ (by omega)]
      simp [show ¬ q = i by omega]
  rw [e]
  apply Int32.toBitVec_inj.mp
  apply BitVec.eq_of_toNat_eq
  unfold nI
  simp only [Int32.toBitVec_or, Int32.toBitVec_ofNat', BitVec.toNat_or, BitVec.toNat_ofNat]
  have l1 := finB_lt k
  have l2 : 2 ^ q < 65536 := Nat.lt_of_lt_of_le (Nat.pow_lt_pow_right (by decide) hq) (by decide)
  have l3 : finB k ||| 2 ^ q < 2 ^ 16 := Nat.or_lt_two_pow l1 l2
  rw [Nat.mod_eq_of_lt (show finB k < 2 ^ 32 by omega), Nat.mod_eq_of_lt (show 2 ^ q < 2 ^ 32 by omega), Nat.mod_eq_of_lt (show finB k ||| 2 ^ q < 2 ^ 32 by omega)]
theorem iI_subn (x : Int) (y : Nat) : iI x - nI y = iI (x - (y : Int)) := by rw [← iI_n, iI_sub]
theorem iI_addn (x : Int) (y : Nat) : iI x + nI y = iI (x + (y : Int)) := by rw [← iI_n, iI_add]
section
variable {N g H T o : Nat} {s : cS} {k : Bk}
theorem hasPaid_ok {q : Nat} (h : bkC s o k) (hq : q < 16) : p_X0_hasPaid N g H T s o (nI q) ∧ k_X0_hasPaid N g H T s o (nI q) = nI (if k (32 + q) = 0 then 0 else 1) := by
  have l := finB_lt k
  show wp (KO_X0_hasPaid_0 N g H T o (nI q) s) (KF_X0_hasPaid_0 N g H T o (nI q) s) (fun v => v = nI (if k (32 + q) = 0 then 0 else 1))
  unfold KO_X0_hasPaid_0 KF_X0_hasPaid_0
  rw [h.2, n_shr1 (by omega) hq, finB_bit]
  by_cases c : k (32 + q) = 0
  · refine wp_neg ?_ ?_
    · simp [c]
      decide
    · rw [if_pos c]
      exact wp_fin rfl rfl
  · refine wp_pos ?_ ?_
    · simp [c, hq]
    · rw [if_neg c]
      exact wp_fin rfl rfl
/-- what a book's doing may change -/
def bkF (o : Nat) (s s' : cS) : Prop := cfr (fun x => x = o ∨ x = o + 1 ∨ x = o + 2) s s' ∧ cI s' 5 o = cI s 5 o
theorem bkF.refl : bkF o s s := ⟨cfr.refl, rfl⟩
theorem bkF.trans {s1 s2 : cS} (h : bkF o s s1) (h' : bkF o s1 s2) : bkF o s s2 := ⟨h.1.trans h'.1, h'.2.trans h.2⟩
theorem bkF_A {i : Nat} {v : Int32} {d : Nat} (hd : d = 1 ∨ d = 2) : bkF o s (csA s (o + d) i v) := ⟨(cfr_A _ _ _).mono (fun a z => by omega), rfl⟩
theorem bkF_2 {v : Int32} : bkF o s (csI s 2 o v) := ⟨(cfr_I _ _ _ _).mono (fun a z => by omega), cI_other _ _ (Or.inl (by decide))⟩
theorem bkC.m {i : Nat} {v : Int} (h : bkC s o k) (hi : i < 16) : bkC (csA s (o + 1) i (iI v)) o (bU k i v) := by
  refine ⟨fun a ha => ⟨?_, ?_⟩, ?_⟩
  · rw [cA_at]
    by_cases c : a = i
    · rw [if_pos c, c, bU_s]
    · rw [if_neg c, bU_o _ _ c]
      exact (h.1 a ha).1
  · rw [cA_ne _ _ _ (by omega), bU_o _ _ (by omega)]
    exact (h.1 a ha).2
  · show cI s 2 o = _
    have e : finB (bU k i v) = finB k := sm_eq (fun a _ => by rw [bU_o _ _ (by omega)])
    rw [e]
    exact h.2
theorem bkC.n {i : Nat} {v : Int} (h : bkC s o k) (hi : i < 16) : bkC (csA s (o + 2) i (iI v)) o (bU k (16 + i) v) := by
  refine ⟨fun a ha => ⟨?_, ?_⟩, ?_⟩
  · rw [cA_ne _ _ _ (by omega), bU_o _ _ (by omega)]
    exact (h.1 a ha).1
  · rw [cA_at]
    by_cases c : a = i
    · rw [if_pos c, c, bU_s]
    · rw [if_neg c, bU_o _ _ (by omega)]
      exact (h.1 a ha).2
  · show cI s 2 o = _
    have e : finB (bU k (16 + i) v) = finB k := sm_eq (fun a _ => by rw [bU_o _ _ (by omega)])
    rw [e]
    exact h.2
theorem bkC.p {q : Nat} (h : bkC s o k) (hq : q < 16) : bkC (csI s 2 o (cI s 2 o ||| (nI 1 <<< (nI q &&& 31)))) o (bU k (32 + q) 1) := by
  refine ⟨fun a ha => ?_, ?_⟩
  · rw [bU_o _ _ (by omega), bU_o _ _ (by omega)]
    exact h.1 a ha
  · rw [cI_same, h.2, finB_or hq]
theorem bkC_cg {k' : Bk} (h : bkC s o k) (e : ∀ i, i < 48 → k i = k' i) : bkC s o k' := by
  refine ⟨fun a ha => ⟨by rw [(h.1 a ha).1, e a (by omega)], by rw [(h.1 a ha).2, e (16 + a) (by omega)]⟩, ?_⟩
  rw [h.2]
  have z : finB k' = finB k := sm_eq (fun a ha => by rw [e (32 + a) (by omega)])
  rw [z]
theorem punish_ok {q m : Nat} (h : bkC s o k) (ok : bkOK k) (hq : q < 16) (hm : m < 16) : wp (p_X0_punish N g H T s o (nI q) (nI m)) (k_X0_punish N g H T s o (nI q) (nI m)) (fun z => bkF o s z.2 ∧ bkC z.2 o (bFine k q m).1 ∧ z.1 = nI (if (bFine k q m).2 then 1 else 0)) := by
  have l := finB_lt k
  have lb := ok.le hq
  show wp (KO_X0_punish_0 N g H T o (nI q) (nI m) s) (KF_X0_punish_0 N g H T o (nI q) (nI m) s) _
  unfold KO_X0_punish_0 KF_X0_punish_0 bFine
  rw [h.2, n_shr1 (by omega) hq, finB_bit, n_clamp (by omega), (h.1 q hq).1]
  refine wp_neg (n_lt0 (by omega)) (wp_neg (by rw [n_le' (by omega) (by omega)]; omega) (wp_neg (n_lt0 (by omega)) (wp_pos (by rw [n_lt' (by omega) (by omega)]; omega) ?_)))
  by_cases c : k (32 + q) = 0
  · rw [if_pos c]
    refine wp_neg ?_ (wp_and ((n_in (by omega)).2 (by omega)) ?_)
    · simp [c]
      decide
    have key : ∀ x : Int, x = bGv (k q) → wp (KO_X0_punish_58 N g H T o (nI q) (nI m) (iI x) s) (KF_X0_punish_58 N g H T o (nI q) (nI m) (iI x) s) (fun z => bkF o s z.2 ∧ bkC z.2 o (bU (bU (bU k (32 + q) 1) q (k q - bGv (k q))) m (bU (bU k (32 + q) 1) q (k q - bGv (k q)) m + bGv (k q))) ∧ z.1 = nI (if true = true then 1 else 0)) := fun x hx => by
      subst hx
      unfold KO_X0_punish_58 KF_X0_punish_58 KO_X0_punish_81 KF_X0_punish_81
      rw [n_clamp (by omega), n_clamp (by omega)]
      have b1 := h.p hq
      have e1 : cA (csI s 2 o (cI s 2 o ||| (nI 1 <<< (nI q &&& 31)))) (o + 1) q = iI (k q) := (h.1 q hq).1
      rw [e1, iI_sub]
      have b2 := b1.m (i := q) (v := k q - bGv (k q)) hq
      have f2 : bkF o s (csA (csI s 2 o (cI s 2 o ||| (nI 1 <<< (nI q &&& 31)))) (o + 1) q (iI (k q - bGv (k q)))) := bkF_2.trans (bkF_A (Or.inl rfl))
      generalize csA (csI s 2 o (cI s 2 o ||| (nI 1 <<< (nI q &&& 31)))) (o + 1) q (iI (k q - bGv (k q))) = s1 at b2 f2 ⊢
      rw [(b2.1 m hm).1, iI_add]
      exact wp_fin ⟨((n_in (by omega)).2 (by omega)), ((n_in (by omega)).2 (by omega)), ((n_in (by omega)).2 (by omega)), ((n_in (by omega)).2 (by omega)), trivial⟩ ⟨f2.trans (bkF_A (Or.inl rfl)), b2.m hm, rfl⟩
    have e100 : nI 100 = iI 100 := rfl
    refine wp_ite (fun d => ?_) (fun d => wp_and ((n_in (by omega)).2 (by omega)) ?_)
    · rw [e100, iI_le (by omega) (by omega) (by omega) (by omega)] at d
      exact key 100 (by unfold bGv; rw [if_neg (by omega)])
    · rw [e100, iI_le (by omega) (by omega) (by omega) (by omega)] at d
      exact key (k q) (by unfold bGv; rw [if_pos (by omega)])
  · rw [if_neg c]
    refine wp_pos ?_ (wp_fin trivial ⟨bkF.refl, h, rfl⟩)
    simp [c, hq]
theorem pay_c {p : List Nat} {m : Nat} (h : bkC s o k) (ok : bkOK k) (hp : isB p) (h0 : bg p 0 < 16) (h1 : bg p 1 < 16) (hm : m < 16) : wp (p_X0_pay N g H T s o (coD p) (nI m)) (k_X0_pay N g H T s o (coD p) (nI m)) (fun z => bkF o s z.2 ∧ bkC z.2 o (bPay k (bg p 0) (bg p 1) (tw p 2) (tw p 4) (bg p 6) m).1 ∧ z.1 = nI (if (bPay k (bg p 0) (bg p 1) (tw p 2) (tw p 4) (bg p 6) m).2 then 1 else 0)) := by
  have t2 := tw_lt hp 2
  have t4 := tw_lt hp 4
  have t6 := hp 6
  have lb := ok.le h0
  have ln := (ok.2.2.1 _ h0)
  have y : ∀ k, k < 8 → byt (coD p) k = if k = 0 then nI 0 else nI (bg p (k - 1)) := fun k hk => coD_byt hp hk
  have e48 : (Int64.toInt32 (coD p >>> (Int32.toInt64 (nI 48) &&& 63))) &&& nI 255 = nI (bg p 0) := y 1 (by decide)
  have e40 : (Int64.toInt32 (coD p >>> (Int32.toInt64 (nI 40) &&& 63))) &&& nI 255 = nI (bg p 1) := y 2 (by decide)
  have e0 : (Int64.toInt32 (coD p)) &&& nI 255 = nI (bg p 6) := by
    have z := y 7 (by decide)
    have e : coD p >>> (Int32.toInt64 (nI 56 - nI 8 * nI 7) &&& 63) = coD p := by
      apply Int64.toBitVec_inj.mp
      rw [shr_l _ (by decide)]
      simp
    unfold byt at z
    rw [e] at z
    exact z
  have e24 : (Int64.toInt32 (coD p >>> (Int32.toInt64 (nI 24) &&& 63))) &&& (65535 : Int32) = nI (tw p 2) := by
    have z := by2_nI (w := coD p) (k := 4) (a := bg p 2) (b := bg p 3) (by decide) (by decide) (hp _) (hp _) (y 3 (by decide)) (y 4 (by decide))
    exact z
  have e8 : (Int64.toInt32 (coD p >>> (Int32.toInt64 (nI 8) &&& 63))) &&& (65535 : Int32) = nI (tw p 4) := by
    have z := by2_nI (w := coD p) (k := 6) (a := bg p 4) (b := bg p 5) (by decide) (by decide) (hp _) (hp _) (y 5 (by decide)) (y 6 (by decide))
    exact z
  show wp (KO_X0_pay_0 N g H T o (coD p) (nI m) s) (KF_X0_pay_0 N g H T o (coD p) (nI m) s) _
  unfold KO_X0_pay_0 KF_X0_pay_0 bPay
  rw [e48, e40, e24, e8, e0, n_clamp (by omega), (h.1 _ h0).1, (h.1 _ h0).2, n_add]
  refine wp_neg (by rw [n_le' (by omega) (by omega)]; omega) (wp_neg (by rw [n_le' (by omega) (by omega)]; omega) (wp_neg (n_lt0 (by omega)) (wp_pos (by rw [n_lt' (by omega) (by omega)]; omega) (wp_and ((n_in (by omega)).2 (by omega)) ?_))))
  have a1 : nI (tw p 4) = iI (k (16 + bg p 0)) ↔ k (16 + bg p 0) = tw p 4 := by
    rw [← iI_n, iI_eq (by omega) (by omega) (by omega) (by omega)]
    omega
  have a2 : nI (tw p 2 + bg p 6) ≤ iI (k (bg p 0)) ↔ ((tw p 2 + bg p 6 : Nat) : Int) ≤ k (bg p 0) := by
    rw [← iI_n, iI_le (by omega) (by omega) (by omega) (by omega)]
  by_cases c : k (16 + bg p 0) = tw p 4
  · refine wp_pos (a1.2 c) (wp_and ((n_in (by omega)).2 (by omega)) ?_)
    by_cases d : ((tw p 2 + bg p 6 : Nat) : Int) ≤ k (bg p 0)
    · refine wp_pos (a2.2 d) (wp_and ((n_in (by omega)).2 (by omega)) (wp_and ((n_in (by omega)).2 (by omega)) ?_))
      rw [if_pos ⟨c, d⟩]
      have en : iI (k (16 + bg p 0)) + nI 1 = iI (k (16 + bg p 0) + 1) := by rw [← iI_n, iI_add]; rfl
      rw [en]
      have b1 := h.n (i := bg p 0) (v := k (16 + bg p 0) + 1) h0
      have f1 : bkF o s (csA s (o + 2) (bg p 0) (iI (k (16 + bg p 0) + 1))) := bkF_A (Or.inr rfl)
      generalize csA s (o + 2) (bg p 0) (iI (k (16 + bg p 0) + 1)) = s1 at b1 f1 ⊢
      unfold KO_X0_pay_116 KF_X0_pay_116
      rw [n_clamp (by omega), n_add, (b1.1 _ h0).1, bU_o _ _ (by omega), iI_subn]
      have b2 := b1.m (i := bg p 0) (v := k (bg p 0) - ((tw p 2 + bg p 6 : Nat) : Int)) h0
      have f2 : bkF o s (csA s1 (o + 1) (bg p 0) (iI (k (bg p 0) - ((tw p 2 + bg p 6 : Nat) : Int)))) := f1.trans (bkF_A (Or.inl rfl))
      generalize csA s1 (o + 1) (bg p 0) (iI (k (bg p 0) - ((tw p 2 + bg p 6 : Nat) : Int))) = s2 at b2 f2 ⊢
      refine wp_and ((n_in (by omega)).2 (by omega)) (wp_and ((n_in (by omega)).2 (by omega)) ?_)
      unfold KO_X0_pay_131 KF_X0_pay_131
      rw [n_clamp (by omega), (b2.1 _ h1).1, iI_addn]
      have b3 := b2.m (i := bg p 1) (v := bU (bU k (16 + bg p 0) (k (16 + bg p 0) + 1)) (bg p 0) (k (bg p 0) - ((tw p 2 + bg p 6 : Nat) : Int)) (bg p 1) + (tw p 2 : Nat)) h1
      have f3 : bkF o s (csA s2 (o + 1) (bg p 1) (iI (bU (bU k (16 + bg p 0) (k (16 + bg p 0) + 1)) (bg p 0) (k (bg p 0) - ((tw p 2 + bg p 6 : Nat) : Int)) (bg p 1) + (tw p 2 : Nat)))) := f2.trans (bkF_A (Or.inl rfl))
      generalize csA s2 (o + 1) (bg p 1) (iI (bU (bU k (16 + bg p 0) (k (16 + bg p 0) + 1)) (bg p 0) (k (bg p 0) - ((tw p 2 + bg p 6 : Nat) : Int)) (bg p 1) + (tw p 2 : Nat))) = s3 at b3 f3 ⊢
      rw [n_clamp (by omega), (b3.1 _ hm).1, iI_addn]
      unfold KO_X0_pay_154 KF_X0_pay_154
      refine wp_and ((n_in (by omega)).2 (by omega)) (wp_and ((n_in (by omega)).2 (by omega)) (wp_and ((n_in (by omega)).2 (by omega)) (wp_and ((n_in (by omega)).2 (by omega)) (wp_fin trivial ⟨f3.trans (bkF_A (Or.inl rfl)), ?_, rfl⟩))))
      have b4 := b3.m (i := m) (v := bU (bU (bU k (16 + bg p 0) (k (16 + bg p 0) + 1)) (bg p 0) (k (bg p 0) - ((tw p 2 + bg p 6 : Nat) : Int))) (bg p 1) (bU (bU k (16 + bg p 0) (k (16 + bg p 0) + 1)) (bg p 0) (k (bg p 0) - ((tw p 2 + bg p 6 : Nat) : Int)) (bg p 1) + (tw p 2 : Nat)) m + (bg p 6 : Nat)) hm
      refine bkC_cg b4 (fun i hi => ?_)
      have ee : k (bg p 0) - ((tw p 2 + bg p 6 : Nat) : Int) = k (bg p 0) - (tw p 2 : Nat) - (bg p 6 : Nat) := by omega
      rw [ee]
      unfold bU
      dsimp only
      by_cases i1 : i = 16 + bg p 0
      · subst i1
        rw [if_neg (by omega), if_neg (by omega), if_neg (by omega), if_pos rfl, if_pos rfl]
      · rw [if_neg i1]
        have j1 : ∀ j, j < 16 → (if j = 16 + bg p 0 then k (16 + bg p 0) + 1 else k j) = k j := fun j hj => if_neg (by omega)
        by_cases i2 : i = m
        · rw [if_pos i2, if_pos i2, j1 m hm, j1 (bg p 1) h1, if_neg i1]
        · rw [if_neg i2, if_neg i2]
          by_cases i3 : i = bg p 1
          · rw [if_pos i3, if_pos i3, j1 (bg p 1) h1, if_neg i1]
          · rw [if_neg i3, if_neg i3]
            by_cases i4 : i = bg p 0
            · rw [if_pos i4, if_neg i1]
            · rw [if_neg i4, if_neg i1]
    · refine wp_neg (fun z => d (a2.1 z)) ?_
      unfold KO_X0_pay_103 KF_X0_pay_103
      rw [if_neg (fun z => d z.2)]
      exact wp_fin trivial ⟨bkF.refl, h, rfl⟩
  · refine wp_neg (fun z => c (a1.1 z)) ?_
    unfold KO_X0_pay_103 KF_X0_pay_103
    rw [if_neg (fun z => c z.1)]
    exact wp_fin trivial ⟨bkF.refl, h, rfl⟩
end
end
