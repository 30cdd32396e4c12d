/-! THE REFERENCE'S HASH IS SHA-256 -/
theorem turn_rot (N : Nat) (S : rS) (x : Int32) (n : Nat) : f_turn N S x (nI n) = rot x n := rfl
theorem turn_ok (N : Nat) (S : rS) (x n : Int32) : o_turn N S x n := trivial
theorem exs {n : Nat} (h : 0 < n) : ∃ m, n = m + 1 := ⟨n - 1, by omega⟩
theorem cmp_l2 {N a : Nat} {b : Nat → Int32} (ha : a + 64 ≤ 1100) : ∀ (d j n : Nat) (S : rS), j + d = 16 → d < n → (∀ i, i < 64 → S.2.1 6 (a + i) = b i) → OL_compress_2 N n (nI a) (nI j) S ∧ ∃ f, L_compress_2 N n (nI a) (nI j) S = (0, rsW S 9 f) ∧ (∀ t, j ≤ t → t < 16 → f t = wrd b t) ∧ (∀ t, t < j → f t = S.2.1 9 t) := by
  intro d
  induction d with
  | zero =>
    intro j n S hj hn hb
    obtain ⟨n, rfl⟩ := exs (show 0 < n by omega)
    have e : j = 16 := by omega
    subst e
    refine ⟨⟨fun _ => trivial, fun c => absurd (nI_le (Nat.le_refl _) (by decide)) c⟩, S.2.1 9, ?_, fun t h1 h2 => by omega, fun t _ => rfl⟩
    show B_compress_2 N (L_compress_2 N n) (nI a) (nI 16) S = _
    unfold B_compress_2
    rw [if_pos (nI_le (Nat.le_refl _) (by decide)), rsW_self]
  | succ d ih =>
    intro j n S hj hn hb
    obtain ⟨n, rfl⟩ := exs (show 0 < n by omega)
    have hlt : ¬ nI 16 ≤ nI j := nI_ge (by omega) (by decide)
    have hi : ∀ k, k < 4 → vp_in (nI (a + 4 * j + k)) 1100 := fun k hk => nI_in (by omega) (by decide)
    have hv : ∀ k, k < 4 → S.2.1 6 (nI (a + 4 * j + k)).toNatClampNeg = b (4 * j + k) := fun k hk => by
      rw [nI_clamp (by omega), Nat.add_assoc]
      exact hb _ (by omega)
    have e0 : nI a + nI 4 * nI j = nI (a + 4 * j + 0) := by rw [n_mul, n_add]; rfl
    have e1 : nI (a + 4 * j + 0) + nI 1 = nI (a + 4 * j + 1) := n_add _ _
    have e2 : nI (a + 4 * j + 0) + nI 2 = nI (a + 4 * j + 2) := n_add _ _
    have e3 : nI (a + 4 * j + 0) + nI 3 = nI (a + 4 * j + 3) := n_add _ _
    have ej : nI j + nI 1 = nI (j + 1) := n_add j 1
    have cj : (nI j).toNatClampNeg = j := nI_clamp (by omega)
    have hw : ((((b (4 * j + 0) <<< (nI 24 &&& 31)) ||| (b (4 * j + 1) <<< (nI 16 &&& 31))) ||| (b (4 * j + 2) <<< (nI 8 &&& 31))) ||| b (4 * j + 3)) = wrd b j := rfl
    obtain ⟨i1, f, i2, i3, i4⟩ := ih (j + 1) n (rsW S 9 (upd (S.2.1 9) j (wrd b j))) (by omega) (by omega) (fun i h => by rw [W_other _ _ (by decide)]; exact hb i h)
    refine ⟨⟨fun c => absurd c hlt, fun _ => ?_⟩, f, ?_, fun t h1 h2 => ?_, fun t ht => ?_⟩
    · unfold O_compress_58
      rw [e0, e1, e2, e3, hv 0 (by decide), hv 1 (by decide), hv 2 (by decide), hv 3 (by decide), hw, ej, cj, rsA_W]
      exact ⟨hi 0 (by decide), hi 1 (by decide), hi 2 (by decide), hi 3 (by decide), nI_in (by omega) (by decide), i1⟩
    · show B_compress_2 N (L_compress_2 N n) (nI a) (nI j) S = _
      unfold B_compress_2 F_compress_58
      rw [if_neg hlt, e0, e1, e2, e3, hv 0 (by decide), hv 1 (by decide), hv 2 (by decide), hv 3 (by decide), hw, ej, cj, rsA_W, i2, rsW_W]
    · by_cases e : t = j
      · subst e
        rw [i4 t (by omega), W_same, upd_same]
      · exact i3 t (by omega) h2
    · rw [i4 t (by omega), W_same, upd_other _ _ (by omega)]
theorem cmp_l81 {N : Nat} {b : Nat → Int32} : ∀ (d j n : Nat) (S : rS), j + d = 64 → 16 ≤ j → d < n → (∀ t, t < j → S.2.1 9 t = sch b t) → OL_compress_81 N n (nI j) S ∧ ∃ f, L_compress_81 N n (nI j) S = (0, rsW S 9 f) ∧ (∀ t, t < 64 → f t = sch b t) := by
  intro d
  induction d with
  | zero =>
    intro j n S hj h16 hn hb
    obtain ⟨n, rfl⟩ := exs (show 0 < n by omega)
    have e : j = 64 := by omega
    subst e
    refine ⟨⟨fun _ => trivial, fun c => absurd (nI_le (Nat.le_refl _) (by decide)) c⟩, S.2.1 9, ?_, hb⟩
    show B_compress_81 N (L_compress_81 N n) (nI 64) S = _
    unfold B_compress_81
    rw [if_pos (nI_le (Nat.le_refl _) (by decide)), rsW_self]
  | succ d ih =>
    intro j n S hj h16 hn hb
    obtain ⟨n, rfl⟩ := exs (show 0 < n by omega)
    have hlt : ¬ nI 64 ≤ nI j := nI_ge (by omega) (by decide)
    have es : ∀ k, k ≤ 16 → nI j - nI k = nI (j - k) := fun k hk => n_sub (by omega)
    have hi : ∀ k, 0 < k → k ≤ 16 → vp_in (nI (j - k)) 64 := fun k h0 hk => nI_in (by omega) (by decide)
    have hv : ∀ k, 0 < k → k ≤ 16 → S.2.1 9 (nI (j - k)).toNatClampNeg = sch b (j - k) := fun k h0 hk => by
      rw [nI_clamp (by omega)]
      exact hb _ (by omega)
    have ej : nI j + nI 1 = nI (j + 1) := n_add j 1
    have cj : (nI j).toNatClampNeg = j := nI_clamp (by omega)
    have hw : ((sch b (j - 16) + ((rot (sch b (j - 15)) 7 ^^^ rot (sch b (j - 15)) 18) ^^^ ((Int32.toUInt32 (sch b (j - 15)) >>> (Int32.toUInt32 ((nI 3)) &&& Int32.toUInt32 31)).toInt32))) + sch b (j - 7)) + ((rot (sch b (j - 2)) 17 ^^^ rot (sch b (j - 2)) 19) ^^^ ((Int32.toUInt32 (sch b (j - 2)) >>> (Int32.toUInt32 ((nI 10)) &&& Int32.toUInt32 31)).toInt32)) = sch b j := by
      rw [sch_hi b (t := j) (by omega)]
      rfl
    obtain ⟨i1, f, i2, i3⟩ := ih (j + 1) n (rsW S 9 (upd (S.2.1 9) j (sch b j))) (by omega) (by omega) (by omega) (fun t ht => by
      rw [W_same]
      by_cases e : t = j
      · subst e; rw [upd_same]
      · rw [upd_other _ _ e]; exact hb t (by omega))
    refine ⟨⟨fun c => absurd c hlt, fun _ => ?_⟩, f, ?_, i3⟩
    · unfold O_compress_138 O_compress_171
      rw [es 15 (by decide), es 2 (by decide), es 16 (by decide), es 7 (by decide), hv 15 (by decide) (by decide), hv 2 (by decide) (by decide), hv 16 (by decide) (by decide), hv 7 (by decide) (by decide), turn_rot, turn_rot, turn_rot, turn_rot, hw, ej, cj, rsA_W]
      exact ⟨hi 15 (by decide) (by decide), hi 2 (by decide) (by decide), hi 16 (by decide) (by decide), trivial, trivial, hi 7 (by decide) (by decide), trivial, trivial, nI_in (by omega) (by decide), i1⟩
    · show B_compress_81 N (L_compress_81 N n) (nI j) S = _
      unfold B_compress_81 F_compress_138 F_compress_171
      rw [if_neg hlt, es 15 (by decide), es 2 (by decide), es 16 (by decide), es 7 (by decide), hv 15 (by decide) (by decide), hv 2 (by decide) (by decide), hv 16 (by decide) (by decide), hv 7 (by decide) (by decide), turn_rot, turn_rot, turn_rot, turn_rot, hw, ej, cj, rsA_W, i2, rsW_W]
theorem cmp_l245 {N : Nat} {K W : Nat → Int32} {v0 : V8} {S : rS} (hK : ∀ t, t < 64 → S.2.1 10 t = K t) (hW : ∀ t, t < 64 → S.2.1 9 t = W t) : ∀ (d j n : Nat) (x2 x3 x4 x5 x6 x7 x8 x9 : Int32), j + d = 64 → d < n → (x2, x3, x4, x5, x6, x7, x8, x9) = rds K W v0 j → OL_compress_245 N n x2 x3 x4 x5 x6 x7 x8 x9 (nI j) S ∧ ∃ y2 y3 y4 y5 y6 y7 y8 y9, L_compress_245 N n x2 x3 x4 x5 x6 x7 x8 x9 (nI j) S = (0, y2, y3, y4, y5, y6, y7, y8, y9, S) ∧ (y2, y3, y4, y5, y6, y7, y8, y9) = rds K W v0 64 := by
  intro d
  induction d with
  | zero =>
    intro j n x2 x3 x4 x5 x6 x7 x8 x9 hj hn hx
    obtain ⟨n, rfl⟩ := exs (show 0 < n by omega)
    have e : j = 64 := by omega
    subst e
    refine ⟨⟨fun _ => trivial, fun c => absurd (nI_le (Nat.le_refl _) (by decide)) c⟩, x2, x3, x4, x5, x6, x7, x8, x9, ?_, hx⟩
    show B_compress_245 N (L_compress_245 N n) x2 x3 x4 x5 x6 x7 x8 x9 (nI 64) S = _
    unfold B_compress_245
    rw [if_pos (nI_le (Nat.le_refl _) (by decide))]
  | succ d ih =>
    intro j n x2 x3 x4 x5 x6 x7 x8 x9 hj hn hx
    obtain ⟨n, rfl⟩ := exs (show 0 < n by omega)
    have hlt : ¬ nI 64 ≤ nI j := nI_ge (by omega) (by decide)
    have ej : nI j + nI 1 = nI (j + 1) := n_add j 1
    have cj : (nI j).toNatClampNeg = j := nI_clamp (by omega)
    have hT : ((((x9 + ((rot x6 6 ^^^ rot x6 11) ^^^ rot x6 25)) + ((x6 &&& x7) ^^^ ((x6 ^^^ (-1)) &&& x8))) + K j) + W j) = rdT (K j) (W j) x6 x7 x8 x9 := rfl
    have hU : ((rot x2 2 ^^^ rot x2 13) ^^^ rot x2 22) + (((x2 &&& x3) ^^^ (x2 &&& x4)) ^^^ (x3 &&& x4)) = rdU x2 x3 x4 := rfl
    have hs : (rdT (K j) (W j) x6 x7 x8 x9 + rdU x2 x3 x4, x2, x3, x4, x5 + rdT (K j) (W j) x6 x7 x8 x9, x6, x7, x8) = rds K W v0 (j + 1) := by
      show _ = rd (K j) (W j) (rds K W v0 j)
      rw [← hx]
      rfl
    obtain ⟨i1, i2⟩ := ih (j + 1) n _ _ _ _ _ _ _ _ (by omega) (by omega) hs
    refine ⟨⟨fun c => absurd c hlt, fun _ => ?_⟩, ?_⟩
    · unfold O_compress_308
      rw [cj, hK j (by omega), hW j (by omega), turn_rot, turn_rot, turn_rot, turn_rot, turn_rot, turn_rot, hT, hU, ej]
      exact ⟨trivial, trivial, trivial, nI_in (by omega) (by decide), nI_in (by omega) (by decide), trivial, trivial, trivial, i1⟩
    · show ∃ y2 y3 y4 y5 y6 y7 y8 y9, B_compress_245 N (L_compress_245 N n) x2 x3 x4 x5 x6 x7 x8 x9 (nI j) S = _ ∧ _
      unfold B_compress_245 F_compress_308
      rw [if_neg hlt, cj, hK j (by omega), hW j (by omega), turn_rot, turn_rot, turn_rot, turn_rot, turn_rot, turn_rot, hT, hU, ej]
      exact i2
theorem c0 : (nI 0).toNatClampNeg = 0 := rfl
theorem c1 : (nI 1).toNatClampNeg = 1 := rfl
theorem c2 : (nI 2).toNatClampNeg = 2 := rfl
theorem c3 : (nI 3).toNatClampNeg = 3 := rfl
theorem c4 : (nI 4).toNatClampNeg = 4 := rfl
theorem c5 : (nI 5).toNatClampNeg = 5 := rfl
theorem c6 : (nI 6).toNatClampNeg = 6 := rfl
theorem c7 : (nI 7).toNatClampNeg = 7 := rfl
theorem compress_ok {N a : Nat} {b K : Nat → Int32} {S : rS} (hN : 100 ≤ N) (ha : a + 64 ≤ 1100) (hb : ∀ i, i < 64 → S.2.1 6 (a + i) = b i) (hK : ∀ t, t < 64 → S.2.1 10 t = K t) : o_compress N S (nI a) ∧ ∃ f9 f8, f_compress N S (nI a) = rsW (rsW S 9 f9) 8 f8 ∧ v8 f8 = cmp8 K b (v8 (S.2.1 8)) := by
  obtain ⟨a1, f, a2, a3, -⟩ := cmp_l2 (N := N) (b := b) ha 16 0 N S rfl (by omega) hb
  obtain ⟨b1, f9, b2, b3⟩ := cmp_l81 (N := N) (b := b) 48 16 N (rsW S 9 f) rfl (by omega) (by omega) (fun t ht => by rw [W_same, a3 t (by omega) ht, sch_lo b ht])
  rw [rsW_W] at b2
  have hK2 : ∀ t, t < 64 → (rsW S 9 f9).2.1 10 t = K t := fun t ht => by rw [W_other _ _ (by decide)]; exact hK t ht
  have h8 : (rsW S 9 f9).2.1 8 = S.2.1 8 := W_other _ _ (by decide)
  obtain ⟨d1, y2, y3, y4, y5, y6, y7, y8, y9, d2, d3⟩ := cmp_l245 (N := N) (K := K) (W := sch b) (v0 := v8 (S.2.1 8)) (S := rsW S 9 f9) hK2 (fun t ht => by rw [W_same]; exact b3 t ht) 64 0 N (S.2.1 8 0) (S.2.1 8 1) (S.2.1 8 2) (S.2.1 8 3) (S.2.1 8 4) (S.2.1 8 5) (S.2.1 8 6) (S.2.1 8 7) rfl (by omega) rfl
  have hin : ∀ k, k < 8 → vp_in (nI k) 8 := fun k hk => nI_in hk (by decide)
  constructor
  · show OL_compress_2 N N (nI a) (nI 0) S ∧ O_compress_78 N (L_compress_2 N N (nI a) (nI 0) S).2
    refine ⟨a1, ?_⟩
    rw [a2]
    show OL_compress_81 N N (nI 16) (rsW S 9 f) ∧ O_compress_178 N (L_compress_81 N N (nI 16) (rsW S 9 f)).2
    refine ⟨b1, ?_⟩
    rw [b2]
    unfold O_compress_178
    simp only [c0, c1, c2, c3, c4, c5, c6, c7, h8]
    refine ⟨hin 0 (by decide), hin 1 (by decide), hin 2 (by decide), hin 3 (by decide), hin 4 (by decide), hin 5 (by decide), hin 6 (by decide), hin 7 (by decide), d1, ?_⟩
    unfold OA_compress_245 O_compress_385 O_compress_413 O_compress_443 O_compress_473
    exact ⟨hin 0 (by decide), hin 0 (by decide), hin 1 (by decide), hin 1 (by decide), hin 2 (by decide), hin 2 (by decide), hin 3 (by decide), hin 3 (by decide), hin 4 (by decide), hin 4 (by decide), hin 5 (by decide), hin 5 (by decide), hin 6 (by decide), hin 6 (by decide), hin 7 (by decide), hin 7 (by decide), trivial⟩
  · refine ⟨f9, upd (upd (upd (upd (upd (upd (upd (upd (S.2.1 8) 0 (S.2.1 8 0 + y2)) 1 (S.2.1 8 1 + y3)) 2 (S.2.1 8 2 + y4)) 3 (S.2.1 8 3 + y5)) 4 (S.2.1 8 4 + y6)) 5 (S.2.1 8 5 + y7)) 6 (S.2.1 8 6 + y8)) 7 (S.2.1 8 7 + y9), ?_, ?_⟩
    · show F_compress_78 N (L_compress_2 N N (nI a) (nI 0) S).2 = _
      rw [a2]
      show F_compress_178 N (L_compress_81 N N (nI 16) (rsW S 9 f)).2 = _
      rw [b2]
      unfold F_compress_178
      simp only [c0, c1, c2, c3, c4, c5, c6, c7, h8]
      rw [d2]
      unfold A_compress_245 F_compress_385 F_compress_413 F_compress_443 F_compress_473
      simp only [c0, c1, c2, c3, c4, c5, c6, c7, rsA_W, W_same, rsW_W, h8]
      simp [upd]
    · show _ = va8 (v8 (S.2.1 8)) (rds K (sch b) (v8 (S.2.1 8)) 64)
      rw [← d3]
      simp [v8, va8, upd]
/-! the text that is hashed: row 6, its size number 7 -/
def hs (S : rS) (h : Nat → Int32) (n : Nat) : rS := rsI (rsW S 6 h) 7 (nI n)
theorem hs_7 (S : rS) (h : Nat → Int32) (n : Nat) : (hs S h n).1 7 = nI n := I_same _ _ _
theorem hs_6 (S : rS) (h : Nat → Int32) (n : Nat) : (hs S h n).2.1 6 = h := W_same _ _ _
theorem hs_A (S : rS) (h : Nat → Int32) (n : Nat) {k : Nat} (hk : k ≠ 6) : (hs S h n).2.1 k = S.2.1 k := W_other _ _ hk
theorem hs_self {S : rS} {n : Nat} (h : S.1 7 = nI n) : hs S (S.2.1 6) n = S := by
  unfold hs
  rw [rsW_self]
  unfold rsI
  have e : upd S.1 7 (nI n) = S.1 := by
    funext j
    by_cases e : j = 7
    · subst e; rw [upd_same, h]
    · rw [upd_other _ _ e]
  rw [e]
theorem hs_hs (S : rS) (h h' : Nat → Int32) (n n' : Nat) : hs (hs S h n) h' n' = hs S h' n' := by
  unfold hs rsI rsW
  refine Prod.ext ?_ (Prod.ext ?_ rfl)
  · funext j
    by_cases e : j = 7 <;> simp [upd, e]
  · funext j
    by_cases e : j = 6 <;> simp [e]
theorem hashByte_hs {N n : Nat} {S : rS} {h : Nat → Int32} (x : Int32) (hn : n < 1100) : o_hashByte N (hs S h n) x ∧ f_hashByte N (hs S h n) x = hs S (upd h n (x &&& nI 255)) (n + 1) := by
  have e7 := hs_7 S h n
  refine ⟨⟨by rw [e7]; exact nI_in hn (by decide), trivial⟩, ?_⟩
  show rsI (rsA (hs S h n) 6 ((hs S h n).1 7).toNatClampNeg (x &&& nI 255)) 7 (((rsA (hs S h n) 6 ((hs S h n).1 7).toNatClampNeg (x &&& nI 255)).1 7) + nI 1) = _
  have e1 : (rsA (hs S h n) 6 ((hs S h n).1 7).toNatClampNeg (x &&& nI 255)).1 7 = nI n := e7
  rw [e1, e7, n_add, nI_clamp (by omega), rsA_W, hs_6]
  have e2 := hs_hs S h (upd h n (x &&& nI 255)) n (n + 1)
  rw [← e2]
  rfl
theorem n_and (a : Nat) : nI a &&& nI 255 = nI (a % 256) := by
  apply Int32.toBitVec_inj.mp
  apply BitVec.eq_of_toNat_eq
  unfold nI
  simp only [Int32.toBitVec_and, Int32.toBitVec_ofNat', BitVec.toNat_and, BitVec.toNat_ofNat]
  rw [show (255 : Nat) % 2 ^ 32 = 2 ^ 8 - 1 by decide, Nat.and_two_pow_sub_one_eq_mod]
  have h1 : a % 2 ^ 32 % 2 ^ 8 = a % 2 ^ 8 := Nat.mod_mod_of_dvd a ⟨2 ^ 24, by decide⟩
  rw [h1]
  have h2 : a % 256 < 2 ^ 32 := Nat.lt_of_lt_of_le (Nat.mod_lt _ (by decide)) (by decide)
  rw [Nat.mod_eq_of_lt h2]
theorem n_ushr {m k : Nat} (hm : m < 2 ^ 31) (hk : k < 32) : (Int32.toUInt32 (nI m) >>> (Int32.toUInt32 (nI k) &&& Int32.toUInt32 31)).toInt32 = nI (m / 2 ^ k) := by
  apply Int32.toBitVec_inj.mp
  apply BitVec.eq_of_toNat_eq
  have e : (Int32.toUInt32 (nI k) &&& Int32.toUInt32 31) = UInt32.ofNat k := by
    rcases (show k = 0 ∨ k = 1 ∨ k = 2 ∨ k = 3 ∨ k = 4 ∨ k = 5 ∨ k = 6 ∨ k = 7 ∨ k = 8 ∨ k = 9 ∨ k = 10 ∨ k = 11 ∨ k = 12 ∨ k = 13 ∨ k = 14 ∨ k = 15 ∨ k = 16 ∨ k = 17 ∨ k = 18 ∨ k = 19 ∨ k = 20 ∨ k = 21 ∨ k = 22 ∨ k = 23 ∨ k = 24 ∨ k = 25 ∨ k = 26 ∨ k = 27 ∨ k = 28 ∨ k = 29 ∨ k = 30 ∨ k = 31 by omega) with rfl | rfl | rfl | rfl | rfl | rfl | rfl | rfl | rfl | rfl | rfl | rfl | rfl | rfl | rfl | rfl | rfl | rfl | rfl | rfl | rfl | rfl | rfl | rfl | rfl | rfl | rfl | rfl | rfl | rfl | rfl | rfl <;> decide
  rw [e]
  have e2 : (Int32.toUInt32 (nI m)).toNat = m := by
    show (BitVec.ofNat 32 m).toNat = m
    rw [BitVec.toNat_ofNat]
    exact Nat.mod_eq_of_lt (by omega)
  have e3 : ((Int32.toUInt32 (nI m) >>> UInt32.ofNat k).toInt32).toBitVec.toNat = (Int32.toUInt32 (nI m) >>> UInt32.ofNat k).toNat := rfl
  rw [e3, UInt32.toNat_shiftRight, e2, UInt32.toNat_ofNat', Nat.mod_eq_of_lt (show k < 2 ^ 32 by omega), Nat.mod_eq_of_lt hk, Nat.shiftRight_eq_div_pow]
  show _ = (BitVec.ofNat 32 (m / 2 ^ k)).toNat
  rw [BitVec.toNat_ofNat]
  have : m / 2 ^ k ≤ m := Nat.div_le_self _ _
  rw [Nat.mod_eq_of_lt (by omega)]
theorem dg_l12 {N e : Nat} {S : rS} {x1 : Int32} (he : e % 64 = 56) (h2 : e < 1100) : ∀ (d m n : Nat) (h : Nat → Int32), m + d = e → d < 64 → d < n → OL_digest_12 N n x1 (hs S h m) ∧ ∃ h', L_digest_12 N n x1 (hs S h m) = (0, x1, hs S h' e) ∧ (∀ i, i < m → h' i = h i) ∧ (∀ i, m ≤ i → i < e → h' i = nI 0) := by
  intro d
  induction d with
  | zero =>
    intro m n h hm h64 hn
    obtain ⟨n, rfl⟩ := exs (show 0 < n by omega)
    have e1 : m = e := by omega
    subst e1
    have c : (hs S h m).1 7 - (hs S h m).1 7 / nI 64 * nI 64 = nI 56 := by rw [hs_7, n_mod (by omega) (by decide), he]
    refine ⟨⟨fun _ => trivial, fun c' => absurd c c'⟩, h, ?_, fun _ _ => rfl, fun i h1 h2 => by omega⟩
    show B_digest_12 N (L_digest_12 N n) x1 (hs S h m) = _
    unfold B_digest_12
    rw [if_pos c]
  | succ d ih =>
    intro m n h hm h64 hn
    obtain ⟨n, rfl⟩ := exs (show 0 < n by omega)
    have c : ¬ (hs S h m).1 7 - (hs S h m).1 7 / nI 64 * nI 64 = nI 56 := by
      rw [hs_7, n_mod (by omega) (by decide)]
      intro z
      have := n_inj (by omega) (by decide) z
      omega
    obtain ⟨b1, b2⟩ := hashByte_hs (N := N) (S := S) (h := h) (n := m) (nI 0) (by omega)
    rw [show nI 0 &&& nI 255 = nI 0 by decide] at b2
    obtain ⟨i1, h', i2, i3, i4⟩ := ih (m + 1) n (upd h m (nI 0)) (by omega) (by omega) (by omega)
    refine ⟨⟨fun c' => absurd c' c, fun _ => ⟨b1, ?_⟩⟩, h', ?_, fun i hi => ?_, fun i h1 h2 => ?_⟩
    · unfold O_digest_29
      rw [b2]
      exact i1
    · show B_digest_12 N (L_digest_12 N n) x1 (hs S h m) = _
      unfold B_digest_12 F_digest_29
      rw [if_neg c, b2, i2]
    · rw [i3 i (by omega), upd_other _ _ (by omega)]
    · by_cases z : i = m
      · subst z
        rw [i3 i (by omega), upd_same]
      · exact i4 i (by omega) h2
theorem dg_l34 {N : Nat} {S : rS} {x1 : Int32} : ∀ (d j m n : Nat) (h : Nat → Int32), j + d = 4 → m + d < 1100 → d < n → OL_digest_34 N n x1 (nI j) (hs S h m) ∧ ∃ h', L_digest_34 N n x1 (nI j) (hs S h m) = (0, x1, hs S h' (m + d)) ∧ (∀ i, i < m → h' i = h i) ∧ (∀ i, m ≤ i → i < m + d → h' i = nI 0) := by
  intro d
  induction d with
  | zero =>
    intro j m n h hj hm hn
    obtain ⟨n, rfl⟩ := exs (show 0 < n by omega)
    have e1 : j = 4 := by omega
    subst e1
    refine ⟨⟨fun _ => trivial, fun c' => absurd (nI_le (Nat.le_refl _) (by decide)) c'⟩, h, ?_, fun _ _ => rfl, fun i h1 h2 => by omega⟩
    show B_digest_34 N (L_digest_34 N n) x1 (nI 4) (hs S h m) = _
    unfold B_digest_34
    rw [if_pos (nI_le (Nat.le_refl _) (by decide))]
    rfl
  | succ d ih =>
    intro j m n h hj hm hn
    obtain ⟨n, rfl⟩ := exs (show 0 < n by omega)
    have c : ¬ nI 4 ≤ nI j := nI_ge (by omega) (by decide)
    obtain ⟨b1, b2⟩ := hashByte_hs (N := N) (S := S) (h := h) (n := m) (nI 0) (by omega)
    rw [show nI 0 &&& nI 255 = nI 0 by decide] at b2
    obtain ⟨i1, h', i2, i3, i4⟩ := ih (j + 1) (m + 1) n (upd h m (nI 0)) (by omega) (by omega) (by omega)
    have ej : nI j + nI 1 = nI (j + 1) := n_add j 1
    rw [show m + 1 + d = m + (d + 1) by omega] at i2 i4
    refine ⟨⟨fun c' => absurd c' c, fun _ => ⟨b1, ?_⟩⟩, h', ?_, fun i hi => ?_, fun i h1 h2 => ?_⟩
    · unfold O_digest_44
      rw [b2, ej]
      exact i1
    · show B_digest_34 N (L_digest_34 N n) x1 (nI j) (hs S h m) = _
      unfold B_digest_34 F_digest_44
      rw [if_neg c, b2, ej, i2]
    · rw [i3 i (by omega), upd_other _ _ (by omega)]
    · by_cases z : i = m
      · subst z
        rw [i3 i (by omega), upd_same]
      · exact i4 i (by omega) h2
theorem dg_l52 {N l : Nat} {S : rS} {h : Nat → Int32} {m : Nat} (hN : 10 ≤ N) (hl : l ≤ 1028) (hm : m + 4 < 1101) : OL_digest_52 N N (nI l) (nI 3) (hs S h m) ∧ ∃ h', L_digest_52 N N (nI l) (nI 3) (hs S h m) = (0, hs S h' (m + 4)) ∧ (∀ i, i < m → h' i = h i) ∧ h' m = nI 0 ∧ h' (m + 1) = nI 0 ∧ h' (m + 2) = nI (8 * l / 256) ∧ h' (m + 3) = nI (8 * l % 256) := by
  obtain ⟨n, rfl⟩ : ∃ n, N = n + 5 := ⟨N - 5, by omega⟩
  have st : ∀ (k n' : Nat) (h : Nat → Int32) (m' : Nat), k < 4 → m' < 1100 → ¬ nI k < 0 ∧ o_hashByte (n + 5) (hs S h m') ((Int32.toUInt32 ((nI 8) * (nI l)) >>> (Int32.toUInt32 (((nI 8) * (nI k))) &&& Int32.toUInt32 31)).toInt32) ∧ f_hashByte (n + 5) (hs S h m') ((Int32.toUInt32 ((nI 8) * (nI l)) >>> (Int32.toUInt32 (((nI 8) * (nI k))) &&& Int32.toUInt32 31)).toInt32) = hs S (upd h m' (nI (8 * l / 2 ^ (8 * k) % 256))) (m' + 1) := fun k n' h m' hk hm' => by
    have b := hashByte_hs (N := n + 5) (S := S) (h := h) (n := m') ((Int32.toUInt32 ((nI 8) * (nI l)) >>> (Int32.toUInt32 (((nI 8) * (nI k))) &&& Int32.toUInt32 31)).toInt32) hm'
    have e : (Int32.toUInt32 ((nI 8) * (nI l)) >>> (Int32.toUInt32 (((nI 8) * (nI k))) &&& Int32.toUInt32 31)).toInt32 &&& nI 255 = nI (8 * l / 2 ^ (8 * k) % 256) := by
      rw [n_mul, n_mul, n_ushr (by omega) (by omega), n_and]
    rw [e] at b
    exact ⟨nI_pos (by omega), b⟩
  obtain ⟨p3, q3, r3⟩ := st 3 0 h m (by decide) (by omega)
  obtain ⟨p2, q2, r2⟩ := st 2 0 (upd h m (nI (8 * l / 2 ^ (8 * 3) % 256))) (m + 1) (by decide) (by omega)
  obtain ⟨p1, q1, r1⟩ := st 1 0 (upd (upd h m (nI (8 * l / 2 ^ (8 * 3) % 256))) (m + 1) (nI (8 * l / 2 ^ (8 * 2) % 256))) (m + 2) (by decide) (by omega)
  obtain ⟨p0, q0, r0⟩ := st 0 0 (upd (upd (upd h m (nI (8 * l / 2 ^ (8 * 3) % 256))) (m + 1) (nI (8 * l / 2 ^ (8 * 2) % 256))) (m + 2) (nI (8 * l / 2 ^ (8 * 1) % 256))) (m + 3) (by decide) (by omega)
  have n3 : nI 3 + (-1) = nI 2 := by decide
  have n2 : nI 2 + (-1) = nI 1 := by decide
  have n1 : nI 1 + (-1) = nI 0 := by decide
  have n0 : nI 0 + (-1) < 0 := by decide
  constructor
  · refine ⟨fun c => absurd c p3, fun _ => ⟨q3, ?_⟩⟩
    unfold O_digest_69
    rw [r3, n3]
    refine ⟨fun c => absurd c p2, fun _ => ⟨q2, ?_⟩⟩
    unfold O_digest_69
    rw [r2, n2]
    refine ⟨fun c => absurd c p1, fun _ => ⟨q1, ?_⟩⟩
    unfold O_digest_69
    rw [r1, n1]
    refine ⟨fun c => absurd c p0, fun _ => ⟨q0, ?_⟩⟩
    unfold O_digest_69
    rw [r0]
    exact ⟨fun _ => trivial, fun c => absurd n0 c⟩
  · refine ⟨upd (upd (upd (upd h m (nI (8 * l / 2 ^ (8 * 3) % 256))) (m + 1) (nI (8 * l / 2 ^ (8 * 2) % 256))) (m + 2) (nI (8 * l / 2 ^ (8 * 1) % 256))) (m + 3) (nI (8 * l / 2 ^ (8 * 0) % 256)), ?_, fun i hi => ?_, ?_, ?_, ?_, ?_⟩
    · show B_digest_52 (n + 5) (L_digest_52 (n + 5) (n + 4)) (nI l) (nI 3) (hs S h m) = _
      unfold B_digest_52 F_digest_69
      rw [if_neg p3, r3, n3]
      show B_digest_52 (n + 5) (L_digest_52 (n + 5) (n + 3)) (nI l) (nI 2) (hs S _ (m + 1)) = _
      unfold B_digest_52 F_digest_69
      rw [if_neg p2, r2, n2]
      show B_digest_52 (n + 5) (L_digest_52 (n + 5) (n + 2)) (nI l) (nI 1) (hs S _ (m + 2)) = _
      unfold B_digest_52 F_digest_69
      rw [if_neg p1, r1, n1]
      show B_digest_52 (n + 5) (L_digest_52 (n + 5) (n + 1)) (nI l) (nI 0) (hs S _ (m + 3)) = _
      unfold B_digest_52 F_digest_69
      rw [if_neg p0, r0]
      show B_digest_52 (n + 5) (L_digest_52 (n + 5) n) (nI l) _ (hs S _ (m + 4)) = _
      unfold B_digest_52
      rw [if_pos n0]
    · rw [upd_other _ _ (by omega), upd_other _ _ (by omega), upd_other _ _ (by omega), upd_other _ _ (by omega)]
    · rw [upd_other _ _ (by omega), upd_other _ _ (by omega), upd_other _ _ (by omega), upd_same]
      congr 1
      omega
    · rw [upd_other _ _ (by omega), upd_other _ _ (by omega), upd_same]
      congr 1
      omega
    · rw [upd_other _ _ (by omega), upd_same]
      congr 1
      omega
    · rw [upd_same]
      congr 1
      omega
theorem dg_l77 {N : Nat} : ∀ (d j n : Nat) (S : rS), j + d = 8 → d < n → OL_digest_77 N n (nI j) S ∧ ∃ f, L_digest_77 N n (nI j) S = (0, rsW S 8 f) ∧ (∀ t, j ≤ t → t < 8 → f t = S.2.1 11 t) ∧ (∀ t, t < j → f t = S.2.1 8 t) := by
  intro d
  induction d with
  | zero =>
    intro j n S hj hn
    obtain ⟨n, rfl⟩ := exs (show 0 < n by omega)
    have e : j = 8 := by omega
    subst e
    refine ⟨⟨fun _ => trivial, fun c => absurd (nI_le (Nat.le_refl _) (by decide)) c⟩, S.2.1 8, ?_, fun t h1 h2 => by omega, fun t _ => rfl⟩
    show B_digest_77 N (L_digest_77 N n) (nI 8) S = _
    unfold B_digest_77
    rw [if_pos (nI_le (Nat.le_refl _) (by decide)), rsW_self]
  | succ d ih =>
    intro j n S hj hn
    obtain ⟨n, rfl⟩ := exs (show 0 < n by omega)
    have hlt : ¬ nI 8 ≤ nI j := nI_ge (by omega) (by decide)
    have ej : nI j + nI 1 = nI (j + 1) := n_add j 1
    have cj : (nI j).toNatClampNeg = j := nI_clamp (by omega)
    obtain ⟨i1, f, i2, i3, i4⟩ := ih (j + 1) n (rsW S 8 (upd (S.2.1 8) j (S.2.1 11 j))) (by omega) (by omega)
    rw [W_other _ _ (show (11 : Nat) ≠ 8 by decide)] at i3
    refine ⟨⟨fun c => absurd c hlt, fun _ => ?_⟩, f, ?_, fun t h1 h2 => ?_, fun t ht => ?_⟩
    · rw [cj, ej, rsA_W]
      exact ⟨nI_in (by omega) (by decide), nI_in (by omega) (by decide), i1⟩
    · show B_digest_77 N (L_digest_77 N n) (nI j) S = _
      unfold B_digest_77
      rw [if_neg hlt, cj, ej, rsA_W, i2, rsW_W]
    · by_cases e : t = j
      · subst e
        rw [i4 t (by omega), W_same, upd_same]
      · exact i3 t (by omega) h2
    · rw [i4 t (by omega), W_same, upd_other _ _ (by omega)]
theorem dg_l103 {N l M : Nat} {f K : Nat → Int32} (hN : 100 ≤ N) (hM : 64 * M ≤ 1100) : ∀ (d j n : Nat) (S : rS), j + d = M → d < n → S.1 7 = nI (64 * M) → (∀ i, i < 64 * M → S.2.1 6 i = pad f l i) → (∀ t, t < 64 → S.2.1 10 t = shaK t) → v8 (S.2.1 8) = shaS f l j → OL_digest_103 N n (nI (64 * j)) S ∧ ∃ f9 f8, L_digest_103 N n (nI (64 * j)) S = (0, rsW (rsW S 9 f9) 8 f8) ∧ v8 f8 = shaS f l M := by
  intro d
  induction d with
  | zero =>
    intro j n S hj hn h7 h6 hK h8
    obtain ⟨n, rfl⟩ := exs (show 0 < n by omega)
    have e : j = M := by omega
    subst e
    have c : S.1 7 ≤ nI (64 * j) := by rw [h7]; exact nI_le (Nat.le_refl _) (by omega)
    refine ⟨⟨fun _ => trivial, fun c' => absurd c c'⟩, S.2.1 9, S.2.1 8, ?_, h8⟩
    show B_digest_103 N (L_digest_103 N n) (nI (64 * j)) S = _
    unfold B_digest_103
    have z : rsW (rsW S 9 (S.2.1 9)) 8 (S.2.1 8) = S := by rw [rsW_self, rsW_self]
    rw [if_pos c, z]
  | succ d ih =>
    intro j n S hj hn h7 h6 hK h8
    obtain ⟨n, rfl⟩ := exs (show 0 < n by omega)
    have c : ¬ S.1 7 ≤ nI (64 * j) := by rw [h7]; exact nI_ge (by omega) (by omega)
    obtain ⟨p1, g9, g8, p2, p3⟩ := compress_ok (N := N) (a := 64 * j) (b := fun i => pad f l (64 * j + i)) (K := shaK) (S := S) hN (by omega) (fun i hi => h6 _ (by omega)) hK
    have ej : nI (64 * j) + nI 64 = nI (64 * (j + 1)) := n_add _ _
    obtain ⟨i1, f9, f8, i2, i3⟩ := ih (j + 1) n (rsW (rsW S 9 g9) 8 g8) (by omega) (by omega) h7 (fun i hi => by rw [W_other _ _ (by decide), W_other _ _ (by decide)]; exact h6 i hi) (fun t ht => by rw [W_other _ _ (by decide), W_other _ _ (by decide)]; exact hK t ht) (by
      rw [W_same, p3, h8]
      rfl)
    refine ⟨⟨fun c' => absurd c' c, fun _ => ⟨p1, ?_⟩⟩, f9, f8, ?_, i3⟩
    · unfold O_digest_116
      rw [p2, ej]
      exact i1
    · show B_digest_103 N (L_digest_103 N n) (nI (64 * j)) S = _
      unfold B_digest_103 F_digest_116
      rw [if_neg c, p2, ej, i2, rsW_comm (rsW S 9 g9) (show (8 : Nat) ≠ 9 by decide), rsW_W, rsW_W]
theorem digest_ok {N l : Nat} {f : Nat → Int32} {S : rS} (hN : 100 ≤ N) (hl : l ≤ 1028) (h7 : S.1 7 = nI l) (h6 : ∀ i, i < l → S.2.1 6 i = f i) (hK : ∀ t, t < 64 → S.2.1 10 t = shaK t) (hI : ∀ t, t < 8 → S.2.1 11 t = shaI t) : o_digest N S ∧ ∃ h6 h9 h8, f_digest N S = rsW (rsW (hs S h6 (64 * padN l)) 9 h9) 8 h8 ∧ v8 h8 = sha f l := by
  have e0 : hs S (S.2.1 6) l = S := hs_self h7
  obtain ⟨a1, a2⟩ := hashByte_hs (N := N) (S := S) (h := S.2.1 6) (n := l) (nI 128) (by omega)
  rw [e0, show nI 128 &&& nI 255 = nI 128 by decide] at a2
  rw [e0] at a1
  have hp : padN l = (l + 72) / 64 := rfl
  generalize hM : padN l = M at *
  obtain ⟨b1, hb, b2, b3, b4⟩ := dg_l12 (N := N) (e := 64 * M - 8) (S := S) (x1 := nI l) (by omega) (by omega) (64 * M - 8 - (l + 1)) (l + 1) N (upd (S.2.1 6) l (nI 128)) (by omega) (by omega) (by omega)
  obtain ⟨d1, hd, d2, d3, d4⟩ := dg_l34 (N := N) (S := S) (x1 := nI l) 4 0 (64 * M - 8) N hb rfl (by omega) (by omega)
  obtain ⟨g1, hg, g2, g3, g4, g5, g6, g7⟩ := dg_l52 (N := N) (l := l) (S := S) (h := hd) (m := 64 * M - 8 + 4) (by omega) hl (by omega)
  rw [show 64 * M - 8 + 4 + 4 = 64 * M by omega] at g2
  have hpad : ∀ i, i < 64 * M → hg i = pad f l i := fun i hi => by
    unfold pad
    rw [hM]
    by_cases i1 : i < l
    · rw [if_pos i1, g3 i (by omega), d3 i (by omega), b3 i (by omega), upd_other _ _ (by omega)]
      exact h6 i i1
    · rw [if_neg i1]
      by_cases i2 : i = l
      · rw [if_pos i2, i2, g3 l (by omega), d3 l (by omega), b3 l (by omega), upd_same]
      · rw [if_neg i2]
        by_cases i3 : i = 64 * M - 2
        · rw [if_pos i3, i3, show 64 * M - 2 = 64 * M - 8 + 4 + 2 by omega, g6]
        · rw [if_neg i3]
          by_cases i4 : i = 64 * M - 1
          · rw [if_pos i4, i4, show 64 * M - 1 = 64 * M - 8 + 4 + 3 by omega, g7]
          · rw [if_neg i4]
            by_cases i5 : i < 64 * M - 8
            · rw [g3 i (by omega), d3 i (by omega), b4 i (by omega) i5]
            · by_cases i6 : i < 64 * M - 8 + 4
              · rw [g3 i i6, d4 i (by omega) i6]
              · rcases (show i = 64 * M - 8 + 4 ∨ i = 64 * M - 8 + 4 + 1 by omega) with z | z
                · rw [z, g4]
                · rw [z, g5]
  obtain ⟨j1, f8, j2, j3, -⟩ := dg_l77 (N := N) 8 0 N (hs S hg (64 * M)) rfl (by omega)
  have hv : v8 f8 = shaS f l 0 := by
    show v8 f8 = v8 shaI
    unfold v8
    rw [j3 0 (by omega) (by omega), j3 1 (by omega) (by omega), j3 2 (by omega) (by omega), j3 3 (by omega) (by omega), j3 4 (by omega) (by omega), j3 5 (by omega) (by omega), j3 6 (by omega) (by omega), j3 7 (by omega) (by omega), hs_A _ _ _ (by decide), hI 0 (by decide), hI 1 (by decide), hI 2 (by decide), hI 3 (by decide), hI 4 (by decide), hI 5 (by decide), hI 6 (by decide), hI 7 (by decide)]
  obtain ⟨k1, h9, h8, k2, k3⟩ := dg_l103 (N := N) (l := l) (M := M) (f := f) (K := shaK) hN (by omega) M 0 N (rsW (hs S hg (64 * M)) 8 f8) (by omega) (by omega) (hs_7 S hg (64 * M)) (fun i hi => by rw [W_other _ _ (by decide), hs_6]; exact hpad i hi) (fun t ht => by rw [W_other _ _ (by decide), hs_A _ _ _ (by decide)]; exact hK t ht) (by rw [W_same]; exact hv)
  constructor
  · refine ⟨a1, ?_⟩
    rw [a2, h7]
    refine ⟨b1, ?_⟩
    rw [b2]
    refine ⟨d1, ?_⟩
    rw [d2]
    refine ⟨g1, ?_⟩
    rw [g2]
    refine ⟨j1, ?_⟩
    rw [j2]
    exact ⟨k1, trivial⟩
  · refine ⟨hg, h9, h8, ?_, by rw [k3]; unfold sha; rw [hM]⟩
    show A_digest_12 N (S.1 7) (f_hashByte N S (nI 128)) (L_digest_12 N N (S.1 7) (f_hashByte N S (nI 128))) = _
    rw [a2, h7, b2]
    show A_digest_34 N (nI l) (nI 0) (hs S hb (64 * M - 8)) (L_digest_34 N N (nI l) (nI 0) (hs S hb (64 * M - 8))) = _
    rw [d2]
    show A_digest_52 N (nI l) (nI 3) (hs S hd (64 * M - 8 + 4)) (L_digest_52 N N (nI l) (nI 3) (hs S hd (64 * M - 8 + 4))) = _
    rw [g2]
    show A_digest_77 N (nI 0) (hs S hg (64 * M)) (L_digest_77 N N (nI 0) (hs S hg (64 * M))) = _
    rw [j2]
    show (L_digest_103 N N (nI (64 * 0)) (rsW (hs S hg (64 * M)) 8 f8)).2 = _
    rw [k2]
    show rsW (rsW (rsW (hs S hg (64 * M)) 8 f8) 9 h9) 8 h8 = _
    rw [rsW_comm (hs S hg (64 * M)) (show (8 : Nat) ≠ 9 by decide), rsW_W]
