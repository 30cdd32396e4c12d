/-! THE CLASS'S HASH IS SHA-256 -/
theorem csA_row (s : cS) (a i : Nat) (x : Int32) : csA s a i x = csArow s a (upd (cA s a) i x) := rfl
theorem cA_same (s : cS) (a : Nat) (f : Nat → Int32) : cA (csArow s a f) a = f := by
  show up1 (cA s) a f a = f
  simp [up1]
theorem cA_other (s : cS) {a b : Nat} (f : Nat → Int32) (h : b ≠ a) : cA (csArow s a f) b = cA s b := by
  show up1 (cA s) a f b = cA s b
  simp [up1, h]
theorem cL_row (s : cS) (a b : Nat) (f : Nat → Int32) : cL (csArow s a f) b = cL s b := rfl
theorem cI_row (s : cS) (a k b : Nat) (f : Nat → Int32) : cI (csArow s a f) k b = cI s k b := rfl
theorem row_row (s : cS) (a : Nat) (f f' : Nat → Int32) : csArow (csArow s a f) a f' = csArow s a f' := by
  have e : up1 (up1 s.2.2.2.2.1 a f) a f' = up1 s.2.2.2.2.1 a f' := by
    funext b
    by_cases h : b = a <;> simp [up1, h]
  show (s.1, s.2.1, s.2.2.1, s.2.2.2.1, up1 (up1 s.2.2.2.2.1 a f) a f', s.2.2.2.2.2) = _
  rw [e]
  rfl
theorem row_self (s : cS) (a : Nat) : csArow s a (cA s a) = s := by
  have e : up1 s.2.2.2.2.1 a (cA s a) = s.2.2.2.2.1 := by
    funext b
    by_cases h : b = a
    · subst h; simp [up1, cA]
    · simp [up1, h]
  show (s.1, s.2.1, s.2.2.1, s.2.2.2.1, up1 s.2.2.2.2.1 a (cA s a), s.2.2.2.2.2) = _
  rw [e]
theorem row_comm (s : cS) {a b : Nat} (h : a ≠ b) (f f' : Nat → Int32) : csArow (csArow s a f) b f' = csArow (csArow s b f') a f := by
  have e : up1 (up1 s.2.2.2.2.1 a f) b f' = up1 (up1 s.2.2.2.2.1 b f') a f := by
    funext q
    by_cases e1 : q = a
    · subst e1; simp [up1, h]
    · by_cases e2 : q = b <;> simp [up1, e1, e2, Ne.symm h]
  show (s.1, s.2.1, s.2.2.1, s.2.2.2.1, up1 (up1 s.2.2.2.2.1 a f) b f', s.2.2.2.2.2) = (s.1, s.2.1, s.2.2.1, s.2.2.2.1, up1 (up1 s.2.2.2.2.1 b f') a f, s.2.2.2.2.2)
  rw [e]
theorem i_ext {x y : Int32} (h : ∀ i, i < 32 → x.toBitVec.getLsbD i = y.toBitVec.getLsbD i) : x = y := by
  apply Int32.toBitVec_inj.mp
  apply BitVec.eq_of_getLsbD_eq
  intro i hi
  exact h i hi
theorem b_ch (x7 x8 x9 : Int32) : x9 ^^^ (x7 &&& (x8 ^^^ x9)) = (x7 &&& x8) ^^^ ((x7 ^^^ (-1)) &&& x9) := by
  apply i_ext
  intro i hi
  have e : (-1 : Int32).toBitVec.getLsbD i = true := by
    rw [show (-1 : Int32).toBitVec = BitVec.allOnes 32 by decide, BitVec.getLsbD_allOnes]
    simp [hi]
  simp only [Int32.toBitVec_xor, Int32.toBitVec_and, BitVec.getLsbD_xor, BitVec.getLsbD_and, e]
  cases x7.toBitVec.getLsbD i <;> cases x8.toBitVec.getLsbD i <;> cases x9.toBitVec.getLsbD i <;> rfl
theorem b_maj (a b c : Int32) : (a &&& b) ||| (c &&& (a ||| b)) = ((a &&& b) ^^^ (a &&& c)) ^^^ (b &&& c) := by
  apply i_ext
  intro i hi
  simp only [Int32.toBitVec_xor, Int32.toBitVec_and, Int32.toBitVec_or, BitVec.getLsbD_xor, BitVec.getLsbD_and, BitVec.getLsbD_or]
  cases a.toBitVec.getLsbD i <;> cases b.toBitVec.getLsbD i <;> cases c.toBitVec.getLsbD i <;> rfl
theorem bit255 {i : Nat} : (nI 255).toBitVec.getLsbD i = decide (i < 8) := by
  rw [show (nI 255).toBitVec = BitVec.ofNat 32 (2 ^ 8 - 1) from rfl, BitVec.getLsbD_ofNat, Nat.testBit_two_pow_sub_one]
  by_cases h : i < 8
  · simp [h]; omega
  · simp [h]
theorem b_shl24 (x : Int32) : x <<< (nI 24 &&& 31) = (x &&& nI 255) <<< (nI 24 &&& 31) := by
  apply i_ext
  intro i hi
  have e : ∀ y : Int32, (y <<< (nI 24 &&& 31)).toBitVec = y.toBitVec <<< 24 := fun y => by
    show y.toBitVec <<< ((nI 24 &&& 31).toBitVec.smod 32) = _
    rw [show ((nI 24 &&& 31).toBitVec.smod 32) = 24#32 by decide]
    rfl
  rw [e, e, BitVec.getLsbD_shiftLeft, BitVec.getLsbD_shiftLeft, Int32.toBitVec_and, BitVec.getLsbD_and, bit255]
  by_cases h : i < 24
  · simp [h]
  · have : i - 24 < 8 := by omega
    simp [this]
theorem rot_c (x : Int32) {n m : Nat} (h : nI 32 - nI n = nI m) : (((Int32.toUInt32 x >>> (Int32.toUInt32 ((nI n)) &&& Int32.toUInt32 31)).toInt32) ||| (x <<< ((nI m) &&& 31))) = rot x n := by
  unfold rot
  rw [h]
theorem zsome (a : Nat) : za (some a) = a := rfl
section CSQ
variable {N g H T h a : Nat} {b : Nat → Int32}
theorem sq_l10 (ha : a + 64 ≤ 1088) : ∀ (d j n : Nat) (S : cS), j + d = 16 → d < n → cL S (h + 2) = 64 → (∀ i, i < 64 → cA S (h + 1) (a + i) &&& nI 255 = b i) → KOL_X2_squeeze_10 N g H T n h (some (h + 2)) (nI j) (nI (a + 4 * j)) S ∧ ∃ f, KL_X2_squeeze_10 N g H T n h (some (h + 2)) (nI j) (nI (a + 4 * j)) S = (0, h, some (h + 2), csArow S (h + 2) f) ∧ (∀ t, j ≤ t → t < 16 → f t = wrd b t) ∧ (∀ t, t < j → f t = cA S (h + 2) t) := by
  intro d
  induction d with
  | zero =>
    intro j n S hj hn hl hb
    obtain ⟨n, rfl⟩ := exs (show 0 < n by omega)
    have e : j = 16 := by omega
    subst e
    refine ⟨⟨fun _ => trivial, fun c => absurd (nI_le (Nat.le_refl _) (by decide)) c⟩, cA S (h + 2), ?_, fun t h1 h2 => by omega, fun t _ => rfl⟩
    show KB_X2_squeeze_10 N g H T (KL_X2_squeeze_10 N g H T n) h (some (h + 2)) (nI 16) (nI (a + 4 * 16)) S = _
    unfold KB_X2_squeeze_10
    rw [if_pos (nI_le (Nat.le_refl _) (by decide)), row_self]
  | succ d ih =>
    intro j n S hj hn hl hb
    obtain ⟨n, rfl⟩ := exs (show 0 < n by omega)
    have hlt : ¬ nI 16 ≤ nI j := nI_ge (by omega) (by decide)
    have hi : ∀ k, k < 4 → vp_in (nI (a + 4 * j + k)) 1088 := fun k hk => nI_in (by omega) (by decide)
    have hv : ∀ k, k < 4 → cA S (h + 1) (nI (a + 4 * j + k)).toNatClampNeg &&& nI 255 = b (4 * j + k) := fun k hk => by
      rw [nI_clamp (by omega), Nat.add_assoc]
      exact hb _ (by omega)
    have hv0 : cA S (h + 1) (nI (a + 4 * j)).toNatClampNeg &&& nI 255 = b (4 * j + 0) := hv 0 (by decide)
    have e1 : nI (a + 4 * j) + nI 1 = nI (a + 4 * j + 1) := n_add _ _
    have e2 : nI (a + 4 * j) + nI 2 = nI (a + 4 * j + 2) := n_add _ _
    have e3 : nI (a + 4 * j) + nI 3 = nI (a + 4 * j + 3) := n_add _ _
    have e4 : nI (a + 4 * j) + nI 4 = nI (a + 4 * (j + 1)) := n_add _ _
    have ej : nI j + nI 1 = nI (j + 1) := n_add j 1
    have cj : (nI j).toNatClampNeg = j := nI_clamp (by omega)
    have hw : ((((b (4 * j + 0) <<< (nI 24 &&& 31)) ||| (b (4 * j + 1) <<< (nI 16 &&& 31))) ||| (b (4 * j + 2) <<< (nI 8 &&& 31))) ||| b (4 * j + 3)) = wrd b j := rfl
    obtain ⟨i1, f, i2, i3, i4⟩ := ih (j + 1) n (csArow S (h + 2) (upd (cA S (h + 2)) j (wrd b j))) (by omega) (by omega) hl (fun i hi => by rw [cA_other _ _ (by omega)]; exact hb i hi)
    refine ⟨⟨fun c => absurd c hlt, fun _ => ?_⟩, f, ?_, fun t h1 h2 => ?_, fun t ht => ?_⟩
    · unfold KO_X2_squeeze_62
      rw [e1, e2, e3, b_shl24, hv0, hv 1 (by decide), hv 2 (by decide), hv 3 (by decide), hw, ej, e4, cj, zsome, csA_row]
      exact ⟨hi 0 (by decide), hi 1 (by decide), hi 2 (by decide), hi 3 (by decide), ⟨Option.some_ne_none _, vk_cast hl (nI_in (by omega) (by decide))⟩, i1⟩
    · show KB_X2_squeeze_10 N g H T (KL_X2_squeeze_10 N g H T n) h (some (h + 2)) (nI j) (nI (a + 4 * j)) S = _
      unfold KB_X2_squeeze_10 KF_X2_squeeze_62
      rw [if_neg hlt, e1, e2, e3, b_shl24, hv0, hv 1 (by decide), hv 2 (by decide), hv 3 (by decide), hw, ej, e4, cj, zsome, csA_row, i2, row_row]
    · by_cases e : t = j
      · subst e
        rw [i4 t (by omega), cA_same, upd_same]
      · exact i3 t (by omega) h2
    · rw [i4 t (by omega), cA_same, upd_other _ _ (by omega)]
theorem sq_l89 : ∀ (d j n : Nat) (S : cS), j + d = 64 → 16 ≤ j → d < n → cL S (h + 2) = 64 → (∀ t, t < j → cA S (h + 2) t = sch b t) → KOL_X2_squeeze_89 N g H T n h (some (h + 2)) (nI j) S ∧ ∃ f, KL_X2_squeeze_89 N g H T n h (some (h + 2)) (nI j) S = (0, h, some (h + 2), csArow S (h + 2) f) ∧ (∀ t, t < 64 → f t = sch b t) := by
  intro d
  induction d with
  | zero =>
    intro j n S hj h16 hn hl hb
    obtain ⟨n, rfl⟩ := exs (show 0 < n by omega)
    have e : j = 64 := by omega
    subst e
    refine ⟨⟨fun _ => trivial, fun c => absurd (nI_le (Nat.le_refl _) (by decide)) c⟩, cA S (h + 2), ?_, hb⟩
    show KB_X2_squeeze_89 N g H T (KL_X2_squeeze_89 N g H T n) h (some (h + 2)) (nI 64) S = _
    unfold KB_X2_squeeze_89
    rw [if_pos (nI_le (Nat.le_refl _) (by decide)), row_self]
  | succ d ih =>
    intro j n S hj h16 hn hl hb
    obtain ⟨n, rfl⟩ := exs (show 0 < n by omega)
    have hlt : ¬ nI 64 ≤ nI j := nI_ge (by omega) (by decide)
    have es : ∀ k, k ≤ 16 → nI j - nI k = nI (j - k) := fun k hk => n_sub (by omega)
    have hi : ∀ k, 0 < k → k ≤ 16 → ¬ some (h + 2) = none ∧ vp_in (nI (j - k)) (cL S (h + 2)) := fun k h0 hk => ⟨Option.some_ne_none _, vk_cast hl (nI_in (by omega) (by decide))⟩
    have hv : ∀ k, 0 < k → k ≤ 16 → cA S (h + 2) (nI (j - k)).toNatClampNeg = sch b (j - k) := fun k h0 hk => by
      rw [nI_clamp (by omega)]
      exact hb _ (by omega)
    have ej : nI j + nI 1 = nI (j + 1) := n_add j 1
    have cj : (nI j).toNatClampNeg = j := nI_clamp (by omega)
    have hw : ((sch b (j - 16) + sch b (j - 7)) + ((rot (sch b (j - 15)) 7 ^^^ rot (sch b (j - 15)) 18) ^^^ ((Int32.toUInt32 (sch b (j - 15)) >>> (Int32.toUInt32 ((nI 3)) &&& Int32.toUInt32 31)).toInt32))) + ((rot (sch b (j - 2)) 17 ^^^ rot (sch b (j - 2)) 19) ^^^ ((Int32.toUInt32 (sch b (j - 2)) >>> (Int32.toUInt32 ((nI 10)) &&& Int32.toUInt32 31)).toInt32)) = sch b j := by
      rw [sch_hi b (t := j) (by omega), Int32.add_assoc (sch b (j - 16)) (sch b (j - 7)), Int32.add_comm (sch b (j - 7)), ← Int32.add_assoc (sch b (j - 16))]
      rfl
    obtain ⟨i1, f, i2, i3⟩ := ih (j + 1) n (csArow S (h + 2) (upd (cA S (h + 2)) j (sch b j))) (by omega) (by omega) (by omega) hl (fun t ht => by
      rw [cA_same]
      by_cases e : t = j
      · subst e; rw [upd_same]
      · rw [upd_other _ _ e]; exact hb t (by omega))
    have r7 := fun x => rot_c x (n := 7) (m := 25) (by decide)
    have r18 := fun x => rot_c x (n := 18) (m := 14) (by decide)
    have r17 := fun x => rot_c x (n := 17) (m := 15) (by decide)
    have r19 := fun x => rot_c x (n := 19) (m := 13) (by decide)
    refine ⟨⟨fun c => absurd c hlt, fun _ => ?_⟩, f, ?_, i3⟩
    · unfold KO_X2_squeeze_136 KO_X2_squeeze_153 KO_X2_squeeze_177
      rw [zsome, es 15 (by decide), es 2 (by decide), es 16 (by decide), es 7 (by decide), hv 15 (by decide) (by decide), hv 2 (by decide) (by decide), hv 16 (by decide) (by decide), hv 7 (by decide) (by decide), r7, r18, r17, r19, hw, ej, cj, csA_row]
      exact ⟨hi 15 (by decide) (by decide), hi 2 (by decide) (by decide), hi 16 (by decide) (by decide), hi 7 (by decide) (by decide), ⟨Option.some_ne_none _, vk_cast hl (nI_in (by omega) (by decide))⟩, i1⟩
    · show KB_X2_squeeze_89 N g H T (KL_X2_squeeze_89 N g H T n) h (some (h + 2)) (nI j) S = _
      unfold KB_X2_squeeze_89 KF_X2_squeeze_136 KF_X2_squeeze_153 KF_X2_squeeze_177
      rw [if_neg hlt, zsome, es 15 (by decide), es 2 (by decide), es 16 (by decide), es 7 (by decide), hv 15 (by decide) (by decide), hv 2 (by decide) (by decide), hv 16 (by decide) (by decide), hv 7 (by decide) (by decide), r7, r18, r17, r19, hw, ej, cj, csA_row, i2, row_row]
theorem sq_l259 {W : Nat → Int32} {v0 : V8} {S : cS} (hl : cL S (h + 2) = 64) (hW : ∀ t, t < 64 → cA S (h + 2) t = W t) : ∀ (d j n : Nat) (x3 x4 x5 x6 x7 x8 x9 x10 : Int32), j + d = 64 → d < n → (x3, x4, x5, x6, x7, x8, x9, x10) = rds shaK W v0 j → KOL_X2_squeeze_259 N g H T n h (some (h + 2)) x3 x4 x5 x6 x7 x8 x9 x10 (nI j) S ∧ ∃ y3 y4 y5 y6 y7 y8 y9 y10, KL_X2_squeeze_259 N g H T n h (some (h + 2)) x3 x4 x5 x6 x7 x8 x9 x10 (nI j) S = (0, h, y3, y4, y5, y6, y7, y8, y9, y10, S) ∧ (y3, y4, y5, y6, y7, y8, y9, y10) = rds shaK W v0 64 := by
  intro d
  induction d with
  | zero =>
    intro j n x3 x4 x5 x6 x7 x8 x9 x10 hj hn hx
    obtain ⟨n, rfl⟩ := exs (show 0 < n by omega)
    have e : j = 64 := by omega
    subst e
    refine ⟨⟨fun _ => trivial, fun c => absurd (nI_le (Nat.le_refl _) (by decide)) c⟩, x3, x4, x5, x6, x7, x8, x9, x10, ?_, hx⟩
    show KB_X2_squeeze_259 N g H T (KL_X2_squeeze_259 N g H T n) h (some (h + 2)) x3 x4 x5 x6 x7 x8 x9 x10 (nI 64) S = _
    unfold KB_X2_squeeze_259
    rw [if_pos (nI_le (Nat.le_refl _) (by decide))]
  | succ d ih =>
    intro j n x3 x4 x5 x6 x7 x8 x9 x10 hj hn hx
    obtain ⟨n, rfl⟩ := exs (show 0 < n by omega)
    have hlt : ¬ nI 64 ≤ nI j := nI_ge (by omega) (by decide)
    have ej : nI j + nI 1 = nI (j + 1) := n_add j 1
    have cj : (nI j).toNatClampNeg = j := nI_clamp (by omega)
    have hT : ((((x10 + ((rot x7 6 ^^^ rot x7 11) ^^^ rot x7 25)) + ((x7 &&& x8) ^^^ ((x7 ^^^ (-1)) &&& x9))) + zADDED.getD j 0) + W j) = rdT (shaK j) (W j) x7 x8 x9 x10 := rfl
    have hU : ((rot x3 2 ^^^ rot x3 13) ^^^ rot x3 22) + (((x3 &&& x4) ^^^ (x3 &&& x5)) ^^^ (x4 &&& x5)) = rdU x3 x4 x5 := rfl
    have hs : (rdT (shaK j) (W j) x7 x8 x9 x10 + rdU x3 x4 x5, x3, x4, x5, x6 + rdT (shaK j) (W j) x7 x8 x9 x10, x7, x8, x9) = rds shaK W v0 (j + 1) := by
      show _ = rd (shaK j) (W j) (rds shaK W v0 j)
      rw [← hx]
      rfl
    obtain ⟨i1, i2⟩ := ih (j + 1) n _ _ _ _ _ _ _ _ (by omega) (by omega) hs
    have r6 := fun x => rot_c x (n := 6) (m := 26) (by decide)
    have r11 := fun x => rot_c x (n := 11) (m := 21) (by decide)
    have r25 := fun x => rot_c x (n := 25) (m := 7) (by decide)
    have r2 := fun x => rot_c x (n := 2) (m := 30) (by decide)
    have r13 := fun x => rot_c x (n := 13) (m := 19) (by decide)
    have r22 := fun x => rot_c x (n := 22) (m := 10) (by decide)
    refine ⟨⟨fun c => absurd c hlt, fun _ => ?_⟩, ?_⟩
    · unfold KO_X2_squeeze_291 KO_X2_squeeze_323 KO_X2_squeeze_348 KO_X2_squeeze_408
      rw [cj, zsome, hW j (by omega), r6, r11, r25, r2, r13, r22, b_ch, b_maj, hT, hU, ej]
      exact ⟨nI_in (by omega) (by decide), ⟨Option.some_ne_none _, vk_cast hl (nI_in (by omega) (by decide))⟩, i1⟩
    · show ∃ y3 y4 y5 y6 y7 y8 y9 y10, KB_X2_squeeze_259 N g H T (KL_X2_squeeze_259 N g H T n) h (some (h + 2)) x3 x4 x5 x6 x7 x8 x9 x10 (nI j) S = _ ∧ _
      unfold KB_X2_squeeze_259 KF_X2_squeeze_291 KF_X2_squeeze_323 KF_X2_squeeze_348 KF_X2_squeeze_408
      rw [if_neg hlt, cj, zsome, hW j (by omega), r6, r11, r25, r2, r13, r22, b_ch, b_maj, hT, hU, ej]
      exact i2
theorem squeeze_ok {S : cS} (hN : 100 ≤ N) (ha : a + 64 ≤ 1088) (hl : cL S (h + 2) = 64) (hb : ∀ i, i < 64 → cA S (h + 1) (a + i) &&& nI 255 = b i) : p_X2_squeeze N g H T S h (nI a) ∧ ∃ w q, k_X2_squeeze N g H T S h (nI a) = csArow (csArow S (h + 2) w) (h + 3) q ∧ v8 q = cmp8 shaK b (v8 (cA S (h + 3))) := by
  obtain ⟨a1, f, a2, a3, -⟩ := sq_l10 (N := N) (g := g) (H := H) (T := T) (h := h) (b := b) ha 16 0 N S rfl (by omega) hl hb
  have z0 : a + 4 * 0 = a := rfl
  rw [z0] at a1 a2
  obtain ⟨b1, f9, b2, b3⟩ := sq_l89 (N := N) (g := g) (H := H) (T := T) (h := h) (b := b) 48 16 N (csArow S (h + 2) f) rfl (by omega) (by omega) hl (fun t ht => by rw [cA_same, a3 t (by omega) ht, sch_lo b ht])
  rw [row_row] at b2
  have h8 : cA (csArow S (h + 2) f9) (h + 3) = cA S (h + 3) := cA_other _ _ (by omega)
  obtain ⟨d1, y2, y3, y4, y5, y6, y7, y8, y9, d2, d3⟩ := sq_l259 (N := N) (g := g) (H := H) (T := T) (h := h) (W := sch b) (v0 := v8 (cA S (h + 3))) (S := csArow S (h + 2) f9) hl (fun t ht => by rw [cA_same]; exact b3 t ht) 64 0 N (cA S (h + 3) 0) (cA S (h + 3) 1) (cA S (h + 3) 2) (cA S (h + 3) 3) (cA S (h + 3) 4) (cA S (h + 3) 5) (cA S (h + 3) 6) (cA S (h + 3) 7) rfl (by omega) rfl
  have hin : ∀ k, k < 8 → vp_in (nI k) 8 := fun k hk => nI_in hk (by decide)
  constructor
  · show KOL_X2_squeeze_10 N g H T N h (some (h + 2)) (nI 0) (nI a) S ∧ KOA_X2_squeeze_10 N g H T h (some (h + 2)) (nI 0) (nI a) S (KL_X2_squeeze_10 N g H T N h (some (h + 2)) (nI 0) (nI a) S)
    refine ⟨a1, ?_⟩
    rw [a2]
    show KOL_X2_squeeze_89 N g H T N h (some (h + 2)) (nI 16) (csArow S (h + 2) f) ∧ KOA_X2_squeeze_89 N g H T h (some (h + 2)) (nI 16) (csArow S (h + 2) f) (KL_X2_squeeze_89 N g H T N h (some (h + 2)) (nI 16) (csArow S (h + 2) f))
    refine ⟨b1, ?_⟩
    rw [b2]
    show KO_X2_squeeze_191 N g H T h (some (h + 2)) (csArow S (h + 2) f9)
    unfold KO_X2_squeeze_191
    simp only [c0, c1, c2, c3, c4, c5, c6, c7, h8]
    refine ⟨hin 0 (by decide), hin 1 (by decide), hin 2 (by decide), hin 3 (by decide), hin 4 (by decide), hin 5 (by decide), hin 6 (by decide), hin 7 (by decide), d1, ?_⟩
    unfold KOA_X2_squeeze_259 KO_X2_squeeze_415 KO_X2_squeeze_436 KO_X2_squeeze_458 KO_X2_squeeze_480
    exact ⟨hin 0 (by decide), hin 0 (by decide), hin 1 (by decide), hin 1 (by decide), hin 2 (by decide), hin 2 (by decide), hin 3 (by decide), hin 3 (by decide), hin 4 (by decide), hin 4 (by decide), hin 5 (by decide), hin 5 (by decide), hin 6 (by decide), hin 6 (by decide), hin 7 (by decide), hin 7 (by decide), trivial⟩
  · refine ⟨f9, upd (upd (upd (upd (upd (upd (upd (upd (cA S (h + 3)) 0 (cA S (h + 3) 0 + y2)) 1 (cA S (h + 3) 1 + y3)) 2 (cA S (h + 3) 2 + y4)) 3 (cA S (h + 3) 3 + y5)) 4 (cA S (h + 3) 4 + y6)) 5 (cA S (h + 3) 5 + y7)) 6 (cA S (h + 3) 6 + y8)) 7 (cA S (h + 3) 7 + y9), ?_, ?_⟩
    · show KA_X2_squeeze_10 N g H T h (some (h + 2)) (nI 0) (nI a) S (KL_X2_squeeze_10 N g H T N h (some (h + 2)) (nI 0) (nI a) S) = _
      rw [a2]
      show KA_X2_squeeze_89 N g H T h (some (h + 2)) (nI 16) (csArow S (h + 2) f) (KL_X2_squeeze_89 N g H T N h (some (h + 2)) (nI 16) (csArow S (h + 2) f)) = _
      rw [b2]
      show KF_X2_squeeze_191 N g H T h (some (h + 2)) (csArow S (h + 2) f9) = _
      unfold KF_X2_squeeze_191
      simp only [c0, c1, c2, c3, c4, c5, c6, c7, h8]
      rw [d2]
      unfold KA_X2_squeeze_259 KF_X2_squeeze_415 KF_X2_squeeze_436 KF_X2_squeeze_458 KF_X2_squeeze_480
      simp only [c0, c1, c2, c3, c4, c5, c6, c7, csA_row, cA_same, row_row, h8]
      simp [upd]
    · show _ = va8 (v8 (cA S (h + 3))) (rds shaK (sch b) (v8 (cA S (h + 3))) 64)
      rw [← d3]
      simp [v8, va8, upd]
end CSQ
theorem k32 {P : Nat → Prop} (h : ∀ k, k < 32 → P k) {k : Nat} (hk : k < 32) : P k := h k hk
theorem n_sshr {m k : Nat} (hm : m < 2 ^ 31) (hk : k < 32) : nI m >>> (nI k &&& 31) = nI (m / 2 ^ k) := by
  have hd : m / 2 ^ k < 2 ^ 31 := Nat.lt_of_le_of_lt (Nat.div_le_self _ _) hm
  apply Int32.toInt_inj.mp
  rw [nI_toInt hd]
  show ((nI m).toBitVec.sshiftRight' ((nI k &&& 31).toBitVec.smod 32)).toInt = _
  have e : ((nI k &&& 31).toBitVec.smod 32) = BitVec.ofNat 32 k := by
    rcases (show k = 0 ∨ k = 1 ∨ k = 2 ∨ k = 3 ∨ k = 4 ∨ k = 5 ∨ k = 6 ∨ k = 7 ∨ k = 8 ∨ k = 9 ∨ k = 10 ∨ k = 11 ∨ k = 12 ∨ k = 13 ∨ k = 14 ∨ k = 15 ∨ k = 16 ∨ k = 17 ∨ k = 18 ∨ k = 19 ∨ k = 20 ∨ k = 21 ∨ k = 22 ∨ k = 23 ∨ k = 24 ∨ k = 25 ∨ k = 26 ∨ k = 27 ∨ k = 28 ∨ k = 29 ∨ k = 30 ∨ k = 31 by omega) with rfl | rfl | rfl | rfl | rfl | rfl | rfl | rfl | rfl | rfl | rfl | rfl | rfl | rfl | rfl | rfl | rfl | rfl | rfl | rfl | rfl | rfl | rfl | rfl | rfl | rfl | rfl | rfl | rfl | rfl | rfl | rfl <;> decide
  rw [e]
  show ((nI m).toBitVec.sshiftRight (BitVec.ofNat 32 k).toNat).toInt = _
  rw [BitVec.toInt_sshiftRight, BitVec.toNat_ofNat, Nat.mod_eq_of_lt (show k < 2 ^ 32 by omega), Int.shiftRight_eq_div_pow]
  rw [show (nI m).toBitVec.toInt = (m : Int) from nI_toInt hm]
  norm_cast
theorem n_sshr2 : ∀ k, k < 32 → nI k >>> (nI 2 &&& 31) = nI (k / 4) := fun k hk => n_sshr (by omega) (by decide)
theorem n_and3 : ∀ k, k < 32 → nI k &&& nI 3 = nI (k % 4) := by decide
theorem e8 (x : Int32) : x.toInt8.toInt32 &&& nI 255 = x &&& nI 255 := by
  apply i_ext
  intro i hi
  rw [Int32.toBitVec_and, Int32.toBitVec_and, BitVec.getLsbD_and, BitVec.getLsbD_and, bit255, Int8.toBitVec_toInt32, Int32.toBitVec_toInt8]
  by_cases h : i < 8
  · rw [BitVec.getLsbD_signExtend, BitVec.getLsbD_signExtend]
    simp [h, hi]
  · simp [h]
theorem e88 (x : Int32) : (x.toInt8.toInt32).toInt8.toInt32 &&& nI 255 = x &&& nI 255 := by rw [e8, e8]
def vget (v : V8) (k : Nat) : Int32 := match v with
  | (a, b, c, d, e, f, g, h) => if k = 0 then a else if k = 1 then b else if k = 2 then c else if k = 3 then d else if k = 4 then e else if k = 5 then f else if k = 6 then g else h
theorem v8_get {q : Nat → Int32} {k : Nat} (hk : k < 8) : q k = vget (v8 q) k := by
  rcases (show k = 0 ∨ k = 1 ∨ k = 2 ∨ k = 3 ∨ k = 4 ∨ k = 5 ∨ k = 6 ∨ k = 7 by omega) with rfl | rfl | rfl | rfl | rfl | rfl | rfl | rfl <;> rfl
/-- byte k of a digest -/
def dig (v : V8) (k : Nat) : Int32 := (vget v (k / 4) >>> ((nI 24 - nI 8 * nI (k % 4)) &&& 31)) &&& nI 255
section CCL
variable {N g H T h : Nat}
theorem fill_ok {S : cS} {r l e : Nat} (hN : e < N) (hle : l ≤ e) (hL : e ≤ cL S r) (h31 : cL S r < 2 ^ 31) : p_J7_fill_eb02e N g H T S (some r) (nI l) (nI e) (nI 0) ∧ ∃ t, k_J7_fill_eb02e N g H T S (some r) (nI l) (nI e) (nI 0) = csArow S r t ∧ (∀ i, l ≤ i → i < e → t i = nI 0) ∧ (∀ i, i < l ∨ e ≤ i → t i = cA S r i) := by
  have lp : ∀ (d j n : Nat) (S : cS), j + d = e → d < n → e ≤ cL S r → cL S r < 2 ^ 31 → KOL_J7_fill_eb02e_10 N g H T n (some r) (nI e) (nI 0) (nI j) S ∧ ∃ t, KL_J7_fill_eb02e_10 N g H T n (some r) (nI e) (nI 0) (nI j) S = (0, csArow S r t) ∧ (∀ i, j ≤ i → i < e → t i = nI 0) ∧ (∀ i, i < j ∨ e ≤ i → t i = cA S r i) := by
    intro d
    induction d with
    | zero =>
      intro j n S hj hn hL h31
      obtain ⟨n, rfl⟩ := exs (show 0 < n by omega)
      have e : j = e := by omega
      subst e
      refine ⟨⟨fun _ => trivial, fun c => absurd (nI_le (Nat.le_refl _) (by omega)) c⟩, cA S r, ?_, fun t h1 h2 => by omega, fun t _ => rfl⟩
      show KB_J7_fill_eb02e_10 N g H T (KL_J7_fill_eb02e_10 N g H T n) (some r) (nI j) (nI 0) (nI j) S = _
      unfold KB_J7_fill_eb02e_10
      rw [if_pos (nI_le (Nat.le_refl _) (by omega)), row_self]
    | succ d ih =>
      intro j n S hj hn hL h31
      obtain ⟨n, rfl⟩ := exs (show 0 < n by omega)
      have hlt : ¬ nI e ≤ nI j := nI_ge (by omega) (by omega)
      have ej : nI j + nI 1 = nI (j + 1) := n_add j 1
      have cj : (nI j).toNatClampNeg = j := nI_clamp (by omega)
      have z8 : (nI 0).toInt8.toInt32 = nI 0 := by decide
      obtain ⟨i1, t, i2, i3, i4⟩ := ih (j + 1) n (csArow S r (upd (cA S r) j (nI 0))) (by omega) (by omega) hL h31
      refine ⟨⟨fun c => absurd c hlt, fun _ => ?_⟩, t, ?_, fun i h1 h2 => ?_, fun i hi => ?_⟩
      · rw [zsome, ej, cj, z8, csA_row]
        exact ⟨⟨Option.some_ne_none _, nI_in (by omega) h31⟩, i1⟩
      · show KB_J7_fill_eb02e_10 N g H T (KL_J7_fill_eb02e_10 N g H T n) (some r) (nI e) (nI 0) (nI j) S = _
        unfold KB_J7_fill_eb02e_10
        rw [if_neg hlt, zsome, ej, cj, z8, csA_row, i2, row_row]
      · by_cases z : i = j
        · subst z
          rw [i4 i (by omega), cA_same, upd_same]
        · exact i3 i (by omega) h2
      · rw [i4 i (by omega), cA_same, upd_other _ _ (by omega)]
  obtain ⟨a1, t, a2, a3, a4⟩ := lp (e - l) l N S (by omega) (by omega) hL h31
  have k1 : nI l ≤ nI e := nI_le hle (by omega)
  have k2 : (0 : Int32) ≤ nI l := nI_pos' (by omega)
  have k3 : nI e ≤ nI (cL S r) := nI_le hL h31
  have er : k_J7_rangeCheck_23922 N g H T S (nI (cL S (za (some r)))) (nI l) (nI e) = S := by
    rw [zsome]
    unfold k_J7_rangeCheck_23922 KF_J7_rangeCheck_23922_0
    rw [if_pos k1, if_pos k2, if_pos k3]
  refine ⟨⟨Option.some_ne_none _, ?_, ?_⟩, t, ?_, a3, a4⟩
  · rw [zsome]
    exact ⟨fun _ => ⟨fun _ => ⟨fun _ => trivial, fun c => absurd k3 c⟩, fun c => absurd k2 c⟩, fun c => absurd k1 c⟩
  · rw [er]
    exact ⟨a1, trivial⟩
  · show KF_J7_fill_eb02e_7 N g H T (some r) (nI l) (nI e) (nI 0) (k_J7_rangeCheck_23922 N g H T S (nI (cL S (za (some r)))) (nI l) (nI e)) = _
    rw [er]
    show (KL_J7_fill_eb02e_10 N g H T N (some r) (nI e) (nI 0) (nI l) S).2 = _
    rw [a2]
theorem cl_l90 {l M : Nat} {f : Nat → Int32} {x1 : Option Nat} {x2 : Int32} (hN : 100 ≤ N) (hM : 64 * M ≤ 1088) : ∀ (d j n : Nat) (S : cS), j + d = M → d < n → cL S (h + 2) = 64 → (∀ i, i < 64 * M → cA S (h + 1) i &&& nI 255 = pad f l i) → v8 (cA S (h + 3)) = shaS f l j → KOL_X2_close_90 N g H T n h x1 x2 (nI (64 * M)) (nI (64 * j)) S ∧ ∃ w q, KL_X2_close_90 N g H T n h x1 x2 (nI (64 * M)) (nI (64 * j)) S = (0, h, x1, x2, csArow (csArow S (h + 2) w) (h + 3) q) ∧ v8 q = shaS f l M := by
  intro d
  induction d with
  | zero =>
    intro j n S hj hn hl h6 h8
    obtain ⟨n, rfl⟩ := exs (show 0 < n by omega)
    have e : j = M := by omega
    subst e
    have c : nI (64 * j) ≤ nI (64 * j) := nI_le (Nat.le_refl _) (by omega)
    refine ⟨⟨fun _ => trivial, fun c' => absurd c c'⟩, cA S (h + 2), cA S (h + 3), ?_, h8⟩
    show KB_X2_close_90 N g H T (KL_X2_close_90 N g H T n) h x1 x2 (nI (64 * j)) (nI (64 * j)) S = _
    unfold KB_X2_close_90
    have z : csArow (csArow S (h + 2) (cA S (h + 2))) (h + 3) (cA S (h + 3)) = S := by rw [row_self, row_self]
    rw [if_pos c, z]
  | succ d ih =>
    intro j n S hj hn hl h6 h8
    obtain ⟨n, rfl⟩ := exs (show 0 < n by omega)
    have c : ¬ nI (64 * M) ≤ nI (64 * j) := nI_ge (by omega) (by omega)
    obtain ⟨p1, g9, g8, p2, p3⟩ := squeeze_ok (N := N) (g := g) (H := H) (T := T) (h := h) (a := 64 * j) (b := fun i => pad f l (64 * j + i)) (S := S) hN (by omega) hl (fun i hi => h6 _ (by omega))
    have ej : nI (64 * j) + nI 64 = nI (64 * (j + 1)) := n_add _ _
    obtain ⟨i1, f9, f8, i2, i3⟩ := ih (j + 1) n (csArow (csArow S (h + 2) g9) (h + 3) g8) (by omega) (by omega) hl (fun i hi => by rw [cA_other _ _ (by omega), cA_other _ _ (by omega)]; exact h6 i hi) (by
      rw [cA_same, p3, h8]
      rfl)
    refine ⟨⟨fun c' => absurd c' c, fun _ => ⟨p1, ?_⟩⟩, f9, f8, ?_, i3⟩
    · unfold KO_X2_close_103
      rw [p2, ej]
      exact i1
    · show KB_X2_close_90 N g H T (KL_X2_close_90 N g H T n) h x1 x2 (nI (64 * M)) (nI (64 * j)) S = _
      unfold KB_X2_close_90 KF_X2_close_103
      rw [if_neg c, p2, ej, i2, row_comm (csArow S (h + 2) g9) (show h + 3 ≠ h + 2 by omega), row_row, row_row]
theorem cl_l125 {v : V8} {r at_ : Nat} (hr : r ≠ h + 3) : ∀ (d j n : Nat) (S : cS), j + d = 32 → d < n → at_ + 32 ≤ cL S r → cL S r < 2 ^ 31 → v8 (cA S (h + 3)) = v → KOL_X2_close_125 N g H T n h (some r) (nI at_) (nI j) S ∧ ∃ o, KL_X2_close_125 N g H T n h (some r) (nI at_) (nI j) S = (0, csArow S r o) ∧ (∀ i, j ≤ i → i < 32 → o (at_ + i) &&& nI 255 = dig v i) ∧ (∀ i, i < at_ + j ∨ at_ + 32 ≤ i → o i = cA S r i) := by
  intro d
  induction d with
  | zero =>
    intro j n S hj hn hL h31 hv
    obtain ⟨n, rfl⟩ := exs (show 0 < n by omega)
    have e : j = 32 := by omega
    subst e
    refine ⟨⟨fun _ => trivial, fun c => absurd (nI_le (Nat.le_refl _) (by decide)) c⟩, cA S r, ?_, fun t h1 h2 => by omega, fun t _ => rfl⟩
    show KB_X2_close_125 N g H T (KL_X2_close_125 N g H T n) h (some r) (nI at_) (nI 32) S = _
    unfold KB_X2_close_125
    rw [if_pos (nI_le (Nat.le_refl _) (by decide)), row_self]
  | succ d ih =>
    intro j n S hj hn hL h31 hv
    obtain ⟨n, rfl⟩ := exs (show 0 < n by omega)
    have hlt : ¬ nI 32 ≤ nI j := nI_ge (by omega) (by decide)
    have ej : nI j + nI 1 = nI (j + 1) := n_add j 1
    have ea : nI at_ + nI j = nI (at_ + j) := n_add _ _
    have ca : (nI (at_ + j)).toNatClampNeg = at_ + j := nI_clamp (by omega)
    have c4 : (nI (j / 4)).toNatClampNeg = j / 4 := nI_clamp (by omega)
    have s2 := n_sshr2 j (by omega)
    have a3 := n_and3 j (by omega)
    have hq : cA S (h + 3) (j / 4) = vget v (j / 4) := by rw [← hv]; exact v8_get (by omega)
    obtain ⟨i1, o, i2, i3, i4⟩ := ih (j + 1) n (csArow S r (upd (cA S r) (at_ + j) (((vget v (j / 4) >>> ((nI 24 - nI 8 * nI (j % 4)) &&& 31)).toInt8.toInt32).toInt8.toInt32))) (by omega) (by omega) hL h31 (by rw [cA_other _ _ (Ne.symm hr)]; exact hv)
    refine ⟨⟨fun c => absurd c hlt, fun _ => ?_⟩, o, ?_, fun i h1 h2 => ?_, fun i hi => ?_⟩
    · unfold KO_X2_close_159
      rw [s2, a3, ea, ca, c4, hq, ej, zsome, csA_row]
      exact ⟨nI_in (by omega) (by decide), ⟨Option.some_ne_none _, nI_in (by omega) h31⟩, i1⟩
    · show KB_X2_close_125 N g H T (KL_X2_close_125 N g H T n) h (some r) (nI at_) (nI j) S = _
      unfold KB_X2_close_125 KF_X2_close_159
      rw [if_neg hlt, s2, a3, ea, ca, c4, hq, ej, zsome, csA_row, i2, row_row]
    · by_cases z : i = j
      · subst z
        rw [i4 (at_ + i) (by omega), cA_same, upd_same, e88]
        rfl
      · exact i3 i (by omega) h2
    · rw [i4 i (by omega), cA_same, upd_other _ _ (by omega)]
theorem close_ok {l r at_ : Nat} {f : Nat → Int32} {S : cS} (hN : 1200 ≤ N) (hl : l ≤ 1024) (L1 : cL S (h + 1) = 1088) (L2 : cL S (h + 2) = 64) (h4 : cI S 4 h = nI l) (hb : ∀ i, i < l → cA S (h + 1) i &&& nI 255 = f i) (hr : r ≠ h + 1 ∧ r ≠ h + 2 ∧ r ≠ h + 3) (hat : at_ + 32 ≤ cL S r) (h31 : cL S r < 2 ^ 31) : p_X2_close N g H T S h (some r) (nI at_) ∧ ∃ t w q o, k_X2_close N g H T S h (some r) (nI at_) = csArow (csArow (csArow (csArow S (h + 1) t) (h + 2) w) (h + 3) q) r o ∧ (∀ i, i < 32 → o (at_ + i) &&& nI 255 = dig (sha f l) i) ∧ (∀ i, i < at_ ∨ at_ + 32 ≤ i → o i = cA S r i) := by
  have hp : padN l = (l + 72) / 64 := rfl
  generalize hM : padN l = M at *
  have ex4 : ((cI S 4 h + nI 72) / nI 64) * nI 64 = nI (64 * M) := by
    rw [h4, n_add, n_div (by omega) (by decide), n_mul]
    congr 1
    omega
  have ex3 : nI 8 * cI S 4 h = nI (8 * l) := by rw [h4, n_mul]
  obtain ⟨a1, t0, a2, a3, a4⟩ := fill_ok (N := N) (g := g) (H := H) (T := T) (S := S) (r := h + 1) (l := l) (e := 64 * M) (by omega) (by omega) (by rw [L1]; omega) (by rw [L1]; decide)
  have es1 : nI (64 * M) - nI 1 = nI (64 * M - 1) := n_sub (by omega)
  have es2 : nI (64 * M) - nI 2 = nI (64 * M - 2) := n_sub (by omega)
  have cl1 : (nI (64 * M - 1)).toNatClampNeg = 64 * M - 1 := nI_clamp (by omega)
  have cl2 : (nI (64 * M - 2)).toNatClampNeg = 64 * M - 2 := nI_clamp (by omega)
  have cll : (nI l).toNatClampNeg = l := nI_clamp (by omega)
  have sh8 : nI (8 * l) >>> (nI 8 &&& 31) = nI (8 * l / 256) := n_sshr (by omega) (by decide)
  -- the padded text
  let t1 := upd (upd (upd t0 l ((-128 : Int).toInt8.toInt32)) (64 * M - 2) (((nI (8 * l / 256)).toInt8.toInt32).toInt8.toInt32)) (64 * M - 1) (((nI (8 * l)).toInt8.toInt32).toInt8.toInt32)
  have ht1 : ∀ i, i < 64 * M → t1 i &&& nI 255 = pad f l i := fun i hi => by
    show upd (upd (upd t0 l ((-128 : Int).toInt8.toInt32)) (64 * M - 2) (((nI (8 * l / 256)).toInt8.toInt32).toInt8.toInt32)) (64 * M - 1) (((nI (8 * l)).toInt8.toInt32).toInt8.toInt32) i &&& nI 255 = _
    unfold pad
    rw [hM]
    by_cases i1 : i < l
    · rw [if_pos i1, upd_other _ _ (by omega), upd_other _ _ (by omega), upd_other _ _ (by omega), a4 i (by omega)]
      exact hb i i1
    · rw [if_neg i1]
      by_cases i2 : i = l
      · rw [if_pos i2, i2, upd_other _ _ (by omega), upd_other _ _ (by omega), upd_same]
        decide
      · rw [if_neg i2]
        by_cases i3 : i = 64 * M - 2
        · rw [if_pos i3, i3, upd_other _ _ (by omega), upd_same, e88, n_and, Nat.mod_eq_of_lt (by omega)]
        · rw [if_neg i3]
          by_cases i4 : i = 64 * M - 1
          · rw [if_pos i4, i4, upd_same, e88, n_and]
          · rw [if_neg i4, upd_other _ _ (by omega), upd_other _ _ (by omega), upd_other _ _ (by omega), a3 i (by omega) (by omega)]
            decide
  let q0 := va_cpy (fun j => zFIRST.getD j 0) (cA S (h + 3)) 0 0 8
  have hq0 : v8 q0 = shaS f l 0 := rfl
  have e1 : csArow (csA (csA (csA (csArow S (h + 1) t0) (h + 1) l ((-128 : Int).toInt8.toInt32)) (h + 1) (64 * M - 2) (((nI (8 * l / 256)).toInt8.toInt32).toInt8.toInt32)) (h + 1) (64 * M - 1) (((nI (8 * l)).toInt8.toInt32).toInt8.toInt32)) (h + 3) (va_cpy (fun j => zFIRST.getD j 0) (cA (csA (csA (csA (csArow S (h + 1) t0) (h + 1) l ((-128 : Int).toInt8.toInt32)) (h + 1) (64 * M - 2) (((nI (8 * l / 256)).toInt8.toInt32).toInt8.toInt32)) (h + 1) (64 * M - 1) (((nI (8 * l)).toInt8.toInt32).toInt8.toInt32)) (h + 3)) 0 0 8) = csArow (csArow S (h + 1) t1) (h + 3) q0 := by
    simp only [csA_row, cA_same, row_row]
    rw [cA_other _ _ (show h + 3 ≠ h + 1 by omega)]
  obtain ⟨b1, w, q, b2, b3⟩ := cl_l90 (N := N) (g := g) (H := H) (T := T) (h := h) (l := l) (M := M) (f := f) (x1 := some r) (x2 := nI at_) (by omega) (by omega) M 0 N (csArow (csArow S (h + 1) t1) (h + 3) q0) (by omega) (by omega) L2 (fun i hi => by rw [cA_other _ _ (by omega), cA_same]; exact ht1 i hi) (by rw [cA_same]; exact hq0)
  have e2 : csArow (csArow (csArow (csArow S (h + 1) t1) (h + 3) q0) (h + 2) w) (h + 3) q = csArow (csArow (csArow S (h + 1) t1) (h + 2) w) (h + 3) q := by
    rw [row_comm (csArow S (h + 1) t1) (show h + 3 ≠ h + 2 by omega), row_row]
  rw [e2] at b2
  obtain ⟨d1, o, d2, d3, d4⟩ := cl_l125 (N := N) (g := g) (H := H) (T := T) (h := h) (v := sha f l) (r := r) (at_ := at_) hr.2.2 32 0 N (csArow (csArow (csArow S (h + 1) t1) (h + 2) w) (h + 3) q) (by omega) (by omega) hat h31 (by rw [cA_same, b3]; unfold sha; rw [hM])
  have er : cA (csArow (csArow (csArow S (h + 1) t1) (h + 2) w) (h + 3) q) r = cA S r := by rw [cA_other _ _ hr.2.2, cA_other _ _ hr.2.1, cA_other _ _ hr.1]
  rw [er] at d4
  have n1 : ¬ nI at_ < 0 := nI_pos (by omega)
  have n2 : ¬ nI (cL S r) - nI 32 < nI at_ := by
    rw [n_sub (by omega)]
    exact nI_nlt (by omega) (by omega)
  have z0 : nI (64 * 0) = nI 0 := rfl
  rw [z0] at b1 b2
  have c8 : (nI 8).toNatClampNeg = 8 := rfl
  constructor
  · show p_J7_fill_eb02e N g H T S (some (h + 1)) (cI S 4 h) _ (nI 0) ∧ _
    rw [ex4, ex3, h4, a2]
    refine ⟨a1, ?_⟩
    unfold KO_X2_close_37 KO_X2_close_62
    rw [show cI (csArow S (h + 1) t0) 4 h = nI l from h4, sh8, es2, es1, cl2, cl1, cll, c0, c8, e1]
    refine ⟨nI_in (by omega) (by decide), nI_in (by omega) (by decide), nI_in (by omega) (by decide), ⟨⟨by decide, by decide, by decide⟩, by decide, by decide⟩, b1, ?_⟩
    rw [b2]
    refine ⟨fun c => absurd c n1, fun _ => ⟨Option.some_ne_none _, fun c => absurd c n2, fun _ => ⟨d1, trivial⟩⟩⟩
  · refine ⟨t1, w, q, o, ?_, fun i hi => d3 i (by omega) hi, fun i hi => d4 i (by omega)⟩
    show KF_X2_close_37 N g H T h (some r) (nI at_) (nI 8 * cI S 4 h) (((cI S 4 h + nI 72) / nI 64) * nI 64) (k_J7_fill_eb02e N g H T S (some (h + 1)) (cI S 4 h) (((cI S 4 h + nI 72) / nI 64) * nI 64) (nI 0)) = _
    rw [ex4, ex3, h4, a2]
    unfold KF_X2_close_37 KF_X2_close_62
    rw [show cI (csArow S (h + 1) t0) 4 h = nI l from h4, sh8, es2, es1, cl2, cl1, cll, c0, c8, e1]
    show KF_X2_close_109 N g H T (KL_X2_close_90 N g H T N h (some r) (nI at_) (nI (64 * M)) (nI 0) (csArow (csArow S (h + 1) t1) (h + 3) q0)).2.1 _ _ _ = _
    rw [b2]
    show KF_X2_close_109 N g H T h (some r) (nI at_) (csArow (csArow (csArow S (h + 1) t1) (h + 2) w) (h + 3) q) = _
    unfold KF_X2_close_109
    rw [if_neg n1, zsome, if_neg (show ¬ nI (cL (csArow (csArow (csArow S (h + 1) t1) (h + 2) w) (h + 3) q) r) - nI 32 < nI at_ from n2), d2]
    rfl
end CCL
