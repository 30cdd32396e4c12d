section
/-! THE CLASS MAKES A MESSAGE -/
/-- a message is written, nothing else -/
def mw (a : Nat) (s s' : cS) : Prop := cK s' = cK s ∧ cL s' = cL s ∧ cR s' = cR s ∧ cP s' = cP s ∧ cn s' = cn s ∧ ck s' = ck s ∧ (∀ k b, b ≠ a ∨ (k ≠ 4 ∧ k ≠ 5) → cI s' k b = cI s k b) ∧ (∀ b, b ≠ a + 1 → cJ s' b = cJ s b) ∧ ∀ b, b ≠ a + 2 → cA s' b = cA s b
section
variable {F N g H T n : Nat} {s s' s1 s2 : cS} {ct ct' : Nat → List Nat} {hd : List Nat} {w : Wd} {pe : Nat → Int} {a : Nat} {m : List Nat}
theorem mw.refl : mw a s s := ⟨rfl, rfl, rfl, rfl, rfl, rfl, fun _ _ _ => rfl, fun _ _ => rfl, fun _ _ => rfl⟩
theorem mw.trans (h : mw a s s1) (h' : mw a s1 s2) : mw a s s2 := by
  obtain ⟨a1, a2, a3, a4, a5, a6, a7, a8, a9⟩ := h
  obtain ⟨b1, b2, b3, b4, b5, b6, b7, b8, b9⟩ := h'
  exact ⟨b1.trans a1, b2.trans a2, b3.trans a3, b4.trans a4, b5.trans a5, b6.trans a6, fun k b hb => (b7 k b hb).trans (a7 k b hb), fun b hb => (b8 b hb).trans (a8 b hb), fun b hb => (b9 b hb).trans (a9 b hb)⟩
theorem mw_A {f : Nat → Int32} : mw a s (csArow s (a + 2) f) := ⟨rfl, rfl, rfl, rfl, rfl, rfl, fun _ _ _ => rfl, fun _ _ => rfl, fun b hb => cA_other _ _ hb⟩
theorem mw_a {i : Nat} {v : Int32} : mw a s (csA s (a + 2) i v) := mw_A
theorem mw_I {k : Nat} {v : Int32} (hk : k = 4 ∨ k = 5) : mw a s (csI s k a v) := ⟨rfl, rfl, rfl, rfl, rfl, rfl, fun _ _ h => cI_other _ _ (by omega), fun _ _ => rfl, fun _ _ => rfl⟩
theorem mw_J {f : Nat → Int64} : mw a s (csJrow s (a + 1) f) := ⟨rfl, rfl, rfl, rfl, rfl, rfl, fun _ _ _ => rfl, fun b hb => cJ_other _ _ hb, fun _ _ => rfl⟩
theorem mw.mf (h : mw a s s') (k5 : cK s a = 5) (hn : nd g H ≤ a) : mfr g H s s' := by
  obtain ⟨a1, a2, a3, a4, a5, a6, a7, a8, a9⟩ := h
  exact ⟨by rw [a5]; exact Nat.le_refl _, fun b _ => ⟨by rw [a1], by rw [a2]⟩, fun k b hb => a7 k b (Or.inl (by omega)), fun k b _ _ => by rw [a3], fun b hb => ⟨a9 b (by omega), a8 b (by omega), by rw [a4]⟩, fun r _ _ _ r4 => a9 r (fun q => r4 (by rw [q, show a + 2 - 2 = a by omega]; exact k5))⟩
theorem mw.cn_ (h : mw a s s') (b : Nat) : cnA g H T s' b = cnA g H T s b := cnA_fr (by rw [h.2.2.2.1]) (fun _ _ _ _ => by rw [h.2.2.2.1]) (fun _ _ _ _ => by rw [h.2.2.1])
theorem wr_C (h : CR F g H T s ct (a :: hd) w pe) (hc : cnA g H T s a = 0) (hw : mw a s s') (st : St 0 g H T s') (hm : hM T s' a m) : CR F g H T s' (fun b => if b = a then m else ct b) (a :: hd) w pe := by
  obtain ⟨h1, h2, h3, h4, h5, h6⟩ := h
  have k5 := h4.k (us_self (g := g) (H := H) (T := T) (s := s) (a := a) (hd := hd))
  have l := h4.n k5
  have mf := hw.mf (g := g) (H := H) k5 l
  have cn' := fun b => hw.cn_ (g := g) (H := H) (T := T) b
  obtain ⟨a1, a2, a3, a4, a5, a6, a7, a8, a9⟩ := hw
  refine ⟨h1, st, by rw [a5]; exact h3, h4.wr hc a1 a2 a3 a4 (fun b => a7 3 b (Or.inr (by decide))) (fun b hb _ => ⟨⟨a7 2 b (Or.inl hb), a7 4 b (Or.inl hb), a7 5 b (Or.inl hb)⟩, a8 _ (by omega), a9 _ (by omega)⟩) hm, h5.fr a1 a2 a5 a6 (fun _ _ => by rw [a4]), (h6.mf mf).cc (fun b hb => ?_)⟩
  rw [cn' b] at hb
  exact if_neg (fun q => by rw [q, hc] at hb; omega)
/-- a fresh message -/
def frC (F g H T len : Nat) (s : cS) (ct : Nat → List Nat) (hd : List Nat) (w : Wd) (pe : Nat → Int) (z : Option Nat × cS) : Prop := ∃ a y, z.1 = some a ∧ y.length = len ∧ CR F g H T z.2 (fun b => if b = a then y else ct b) (a :: hd) w pe ∧ cnA g H T z.2 a = 0 ∧ us g H T s hd a = 0 ∧ cI z.2 4 a = nI 0 ∧ cI z.2 5 a = nI 0 ∧ ffr g H hd s z.2 ∧ mfr g H s z.2 ∧ ∀ b, cK s b = 5 → cI z.2 4 b = cI s 4 b ∨ b = a
theorem fresh_C {len : Nat} (h : CR F g H T s ct hd w pe) (hl : hd.length ≤ 30) (h1 : 1 ≤ len) (h2 : len ≤ 1000) : wp (p_X9_fresh N g H T s (g + 11) (nI len)) (k_X9_fresh N g H T s (g + 11) (nI len)) (frC F g H T len s ct hd w pe) := by
  have hh := h
  obtain ⟨c1, c2, c3, c4, c5, c6⟩ := h
  have cb := c1.bb
  have q := fresh_ok (N := N) c2 c4 c5 c3 cb.1 cb.2.1 hl h1 h2
  refine wp_mono q ?_
  rintro ⟨a, y, z1, st, ua, yl, hp, rm, mf, i4, i5, cn', f4⟩
  have ca : cnA g H T s a = 0 := by
    unfold us at ua
    omega
  refine ⟨a, y, z1, yl, ⟨c1, st, by have := mf.1; omega, hp, rm, (c6.mf mf).cc (fun b hb => ?_)⟩, by rw [cn']; exact ca, ua, i4, i5, ⟨fun x hx => ?_, ?_⟩, mf, fun b kb => ?_⟩
  · rw [cn' b] at hb
    exact if_neg (fun q => by rw [q, ca] at hb; omega)
  · have k5 := (hh.kd hx).1
    exact f4 x (fun q => by
      have := us_in (g := g) (H := H) (T := T) (s := s) hx
      rw [q] at this
      omega) k5
  · have l : ∀ m o, m < H → o < 24 → nd g m + o < nd g H := fun m o hm ho => by unfold nd; omega
    exact ⟨(mf.2.2.2.2.1 _ (by unfold nd; omega)).2.2, fun m e hm he => (mf.2.2.2.2.1 _ (l m _ hm (by have := plO_b e; omega))).2.2, fun m k hm hk => mf.2.2.2.1 k _ (l m 0 hm (by decide)) (Or.inr (by omega))⟩
  · by_cases c : b = a
    · exact Or.inr c
    · exact Or.inl (f4 b c kb)
theorem n_and7 (m : Nat) : nI m &&& nI 7 = nI (m % 8) := by
  apply Int32.toBitVec_inj.mp
  apply BitVec.eq_of_toNat_eq
  unfold nI
  simp only [Int32.toBitVec_and, Int32.toBitVec_ofNat', BitVec.toNat_and, BitVec.toNat_ofNat]
  rw [show 7 % 2 ^ 32 = 2 ^ 3 - 1 by decide, Nat.and_two_pow_sub_one_eq_mod]
  omega
/-- an id is written -/
theorem wrId_ok {r at_ : Nat} {d : List Nat} (hN : 100 ≤ N) (hd' : ∀ k, k < 32 → lby (cJ s (a + 1)) k = nI (bg d k)) (hB : isB d) (hl : at_ + 32 ≤ cL s r) (h3 : cL s r ≤ 3000) : wp (p_X5_writeId N g H T s a (some r) (nI at_)) (k_X5_writeId N g H T s a (some r) (nI at_)) (fun Z => ∃ f, Z = csArow s r f ∧ ∀ i, f i = if at_ ≤ i ∧ i < at_ + 32 then sb (bg d (i - at_)) else cA s r i) := by
  show wp (KO_X5_writeId_0 N g H T (some a) (some r) (nI at_) s) (KF_X5_writeId_0 N g H T (some a) (some r) (nI at_) s) _
  unfold KO_X5_writeId_0 KF_X5_writeId_0
  rw [zsome, n_sub (by omega)]
  refine wp_neg (n_lt0 (by omega)) (wp_and someN (wp_pos (by rw [n_le' (by omega) (by omega)]; omega) ?_))
  refine wp_seq (Q := fun Z : Nat × cS => ∃ f, Z.2 = csArow s r f ∧ ∀ i, f i = if at_ ≤ i ∧ i < at_ + 32 then sb (bg d (i - at_)) else cA s r i) ?_ (fun Z hZ => wp_fin trivial hZ)
  refine wp_loop (K := 32) (fun j (X : cS) => ∃ f, X = csArow s r f ∧ ∀ i, f i = if at_ ≤ i ∧ i < at_ + j then sb (bg d (i - at_)) else cA s r i) (fun m j X => KOL_X5_writeId_16 N g H T m (some a) (some r) (nI at_) (nI j) X) (fun m j X => KL_X5_writeId_16 N g H T m (some a) (some r) (nI at_) (nI j) X) (fun m j X hj hI ih => ?_) 0 N s (by omega) (by omega) ⟨cA s r, ?_, fun i => by rw [if_neg (by omega)]⟩
  · obtain ⟨f, rfl, hf⟩ := hI
    unfold KOL_X5_writeId_16 KL_X5_writeId_16 KOB_X5_writeId_16 KB_X5_writeId_16 KO_X5_writeId_48 KF_X5_writeId_48
    by_cases c : j = 32
    · subst c
      exact wp_pos (by rw [n_le' (by omega) (by omega)]; omega) (wp_fin trivial ⟨f, rfl, hf⟩)
    have s3 : nI j >>> (nI 3 &&& 31) = nI (j / 8) := n_shrK (k := 3) (by omega) (by decide)
    have a7 : nI j &&& nI 7 = nI (j % 8) := n_and7 j
    have eJ : cJ (csArow s r f) (a + 1) = cJ s (a + 1) := rfl
    have eL : cL (csArow s r f) r = cL s r := rfl
    rw [zsome, zsome, s3, a7, n_clamp (by omega), n_add, n_clamp (by omega), n_add, eJ, eL]
    have bb : ((Int64.toInt32 (cJ s (a + 1) (j / 8) >>> (Int32.toInt64 (nI 56 - nI 8 * nI (j % 8)) &&& 63))).toInt8.toInt32).toInt8.toInt32 = sb (bg d j) := by
      rw [b88, ← toInt8_and]
      have e : Int64.toInt32 (cJ s (a + 1) (j / 8) >>> (Int32.toInt64 (nI 56 - nI 8 * nI (j % 8)) &&& 63)) &&& nI 255 = nI (bg d j) := hd' j (by omega)
      rw [e]
      rfl
    rw [bb]
    refine wp_neg (by rw [n_le' (by omega) (by omega)]; omega) (wp_and someN (wp_and ((n_in (by omega)).2 (by omega)) (wp_and ⟨someN, ((n_in (by omega)).2 (by omega))⟩ (ih _ ⟨upd f (at_ + j) (sb (bg d j)), ?_, fun i => ?_⟩ (by omega)))))
    · rw [csA_row, cA_same, row_row]
    · by_cases e : i = at_ + j
      · rw [e, upd_same, if_pos (by omega), show at_ + j - at_ = j by omega]
      · rw [upd_other _ _ e, hf i]
        by_cases q : at_ ≤ i ∧ i < at_ + j
        · rw [if_pos q, if_pos (by omega)]
        · rw [if_neg q, if_neg (by omega)]
  · have : csArow s r (cA s r) = s := by
      unfold csArow
      have : up1 s.2.2.2.2.1 r (cA s r) = s.2.2.2.2.1 := by
        funext b
        unfold up1
        split
        · rename_i c
          rw [c]
          rfl
        · rfl
      rw [this]
    exact this.symm
end
end
