/-! THE CLASS'S TREE OF HASHES -/
/-- only numbers and plain rows at addresses of P may differ -/
def cfr (P : Nat → Prop) (s s' : cS) : Prop := cK s' = cK s ∧ cL s' = cL s ∧ cn s' = cn s ∧ ck s' = ck s ∧ cR s' = cR s ∧ cP s' = cP s ∧ cJ s' = cJ s ∧ (∀ k a, ¬ P a → cI s' k a = cI s k a) ∧ ∀ a, ¬ P a → cA s' a = cA s a
theorem cfr.refl {P : Nat → Prop} {s : cS} : cfr P s s := ⟨rfl, rfl, rfl, rfl, rfl, rfl, rfl, fun _ _ _ => rfl, fun _ _ => rfl⟩
theorem cfr.trans {P : Nat → Prop} {s s1 s2 : cS} (h : cfr P s s1) (h' : cfr P s1 s2) : cfr P s s2 :=
  ⟨h'.1.trans h.1, h'.2.1.trans h.2.1, h'.2.2.1.trans h.2.2.1, h'.2.2.2.1.trans h.2.2.2.1, h'.2.2.2.2.1.trans h.2.2.2.2.1, h'.2.2.2.2.2.1.trans h.2.2.2.2.2.1, h'.2.2.2.2.2.2.1.trans h.2.2.2.2.2.2.1, fun k a ha => (h'.2.2.2.2.2.2.2.1 k a ha).trans (h.2.2.2.2.2.2.2.1 k a ha), fun a ha => (h'.2.2.2.2.2.2.2.2 a ha).trans (h.2.2.2.2.2.2.2.2 a ha)⟩
theorem cfr.mono {P P' : Nat → Prop} {s s1 : cS} (h : cfr P s s1) (hp : ∀ a, P a → P' a) : cfr P' s s1 :=
  ⟨h.1, h.2.1, h.2.2.1, h.2.2.2.1, h.2.2.2.2.1, h.2.2.2.2.2.1, h.2.2.2.2.2.2.1, fun k a ha => h.2.2.2.2.2.2.2.1 k a (fun z => ha (hp a z)), fun a ha => h.2.2.2.2.2.2.2.2 a (fun z => ha (hp a z))⟩
theorem cfr.L {P : Nat → Prop} {s s1 : cS} (h : cfr P s s1) (a : Nat) : cL s1 a = cL s a := by rw [h.2.1]
theorem cfr.A {P : Nat → Prop} {s s1 : cS} (h : cfr P s s1) (a : Nat) (ha : ¬ P a) : cA s1 a = cA s a := h.2.2.2.2.2.2.2.2 a ha
theorem cfr.I {P : Nat → Prop} {s s1 : cS} (h : cfr P s s1) (k a : Nat) (ha : ¬ P a) : cI s1 k a = cI s k a := h.2.2.2.2.2.2.2.1 k a ha
theorem cI_same (s : cS) (k a : Nat) (v : Int32) : cI (csI s k a v) k a = v := by
  show up2 s.2.1 k a v k a = v
  simp [up2]
theorem cI_other (s : cS) {k a k' a' : Nat} (v : Int32) (h : k' ≠ k ∨ a' ≠ a) : cI (csI s k a v) k' a' = cI s k' a' := by
  show up2 s.2.1 k a v k' a' = s.2.1 k' a'
  unfold up2
  rw [if_neg (fun z => h.elim (fun q => q z.1) (fun q => q z.2))]
theorem cA_I (s : cS) (k a b : Nat) (v : Int32) : cA (csI s k a v) b = cA s b := rfl
theorem row_I (s : cS) (k a b : Nat) (v : Int32) (f : Nat → Int32) : csArow (csI s k a v) b f = csI (csArow s b f) k a v := rfl
theorem I_I (s : cS) (k a : Nat) (v w : Int32) : csI (csI s k a v) k a w = csI s k a w := by
  have e : up2 (up2 s.2.1 k a v) k a w = up2 s.2.1 k a w := by
    funext j b
    unfold up2
    by_cases h : j = k ∧ b = a
    · rw [if_pos h, if_pos h]
    · rw [if_neg h, if_neg h, if_neg h]
  show (s.1, up2 (up2 s.2.1 k a v) k a w, s.2.2) = _
  rw [e]
  rfl
theorem I_self {s : cS} {k a : Nat} {v : Int32} (h : cI s k a = v) : csI s k a v = s := by
  have e : up2 s.2.1 k a v = s.2.1 := by
    funext j b
    unfold up2
    by_cases z : j = k ∧ b = a
    · rw [if_pos z, z.1, z.2]
      exact h.symm
    · rw [if_neg z]
  show (s.1, up2 s.2.1 k a v, s.2.2) = s
  rw [e]
theorem cfr_I (s : cS) (k a : Nat) (v : Int32) : cfr (fun b => b = a) s (csI s k a v) := ⟨rfl, rfl, rfl, rfl, rfl, rfl, rfl, fun _ _ hb => cI_other _ _ (Or.inr hb), fun _ _ => rfl⟩
theorem cfr_A (s : cS) (a : Nat) (f : Nat → Int32) : cfr (fun b => b = a) s (csArow s a f) := ⟨rfl, rfl, rfl, rfl, rfl, rfl, rfl, fun _ _ _ => rfl, fun _ hb => cA_other _ _ hb⟩
/-- the hasher's text: n bytes of it -/
def cth (S : cS) (h : Nat) (t : Nat → Int32) (n : Nat) : cS := csI (csArow S (h + 1) t) 4 h (nI n)
def cT (S0 S : cS) (h : Nat) (f : Nat → Int32) (n : Nat) : Prop := ∃ t, S = cth S0 h t n ∧ ∀ i, i < n → t i &&& nI 255 = f i
def isH (h a : Nat) : Prop := h ≤ a ∧ a ≤ h + 4
theorem cth_4 (S : cS) (h : Nat) (t : Nat → Int32) (n : Nat) : cI (cth S h t n) 4 h = nI n := cI_same _ _ _ _
theorem cth_A1 (S : cS) (h : Nat) (t : Nat → Int32) (n : Nat) : cA (cth S h t n) (h + 1) = t := cA_same _ _ _
theorem cth_A (S : cS) (h : Nat) (t : Nat → Int32) (n : Nat) {a : Nat} (ha : a ≠ h + 1) : cA (cth S h t n) a = cA S a := cA_other _ _ ha
theorem cth_row (S : cS) (h : Nat) (t t' : Nat → Int32) (n : Nat) : csArow (cth S h t n) (h + 1) t' = cth S h t' n := by
  unfold cth
  rw [row_I, row_row]
theorem cth_I (S : cS) (h : Nat) (t : Nat → Int32) (n m : Nat) : csI (cth S h t n) 4 h (nI m) = cth S h t m := by
  unfold cth
  rw [I_I]
theorem cfr_cth (S : cS) (h : Nat) (t : Nat → Int32) (n : Nat) : cfr (isH h) S (cth S h t n) :=
  ((cfr_A S (h + 1) t).mono (fun a e => by subst e; unfold isH; omega)).trans ((cfr_I _ 4 h (nI n)).mono (fun a e => by subst e; unfold isH; omega))
theorem cth_I5 (S : cS) (h : Nat) (t : Nat → Int32) (n : Nat) : cI (cth S h t n) 5 h = cI S 5 h := cI_other _ _ (Or.inl (by decide))
section CTR
variable {N g H T h : Nat}
theorem open_ok (S : cS) (f : Nat → Int32) : p_X2_open N g H T S h ∧ cT S (k_X2_open N g H T S h) h f 0 := by
  refine ⟨trivial, cA S (h + 1), ?_, fun i hi => by omega⟩
  show csI S 4 h (nI 0) = cth S h (cA S (h + 1)) 0
  unfold cth
  rw [row_self]
theorem add_ok {S0 S : cS} {f : Nat → Int32} {n : Nat} (x : Int32) (hT : cT S0 S h f n) (hn : n < 1024) : p_X2_add N g H T S h x ∧ cT S0 (k_X2_add N g H T S h x) h (fun i => if i = n then x &&& nI 255 else f i) (n + 1) := by
  obtain ⟨t, rfl, ht⟩ := hT
  have e4 := cth_4 S0 h t n
  have c : ¬ nI 1024 ≤ cI (cth S0 h t n) 4 h := by rw [e4]; exact nI_ge hn (by decide)
  refine ⟨⟨fun z => absurd z c, fun _ => ⟨by rw [e4]; exact nI_in (by omega) (by decide), trivial⟩⟩, upd t n ((x.toInt8.toInt32).toInt8.toInt32), ?_, fun i hi => ?_⟩
  · show (if nI 1024 ≤ cI (cth S0 h t n) 4 h then cth S0 h t n else csI (csA (cth S0 h t n) (h + 1) (cI (cth S0 h t n) 4 h).toNatClampNeg ((x.toInt8.toInt32).toInt8.toInt32)) 4 h (cI (cth S0 h t n) 4 h + nI 1)) = _
    rw [if_neg c, e4, nI_clamp (by omega), n_add, csA_row, cth_A1, cth_row, cth_I]
  · show upd t n ((x.toInt8.toInt32).toInt8.toInt32) i &&& nI 255 = if i = n then x &&& nI 255 else f i
    by_cases e : i = n
    · rw [e, upd_same, if_pos rfl, e88]
    · rw [upd_other _ _ e, if_neg e]
      exact ht i (by omega)
theorem addR_ok {S0 S : cS} {f : Nat → Int32} {n r a b : Nat} (hT : cT S0 S h f n) (hr : r ≠ h + 1) (hab : a ≤ b) (hb : b ≤ cL S0 r) (h31 : cL S0 r < 2 ^ 31) (hn : n + (b - a) ≤ 1024) : p_X2_add_ N g H T S h (some r) (nI a) (nI b) ∧ cT S0 (k_X2_add_ N g H T S h (some r) (nI a) (nI b)) h (fun i => if i < n then f i else cA S0 r (a + (i - n)) &&& nI 255) (n + (b - a)) := by
  obtain ⟨t, rfl, ht⟩ := hT
  have e4 := cth_4 S0 h t n
  have eL : cL (cth S0 h t n) (za (some r)) = cL S0 r := rfl
  have c1 : ¬ nI a < 0 := nI_pos (by omega)
  have c2 : ¬ nI b < nI a := nI_nlt hab (by omega)
  have c3 : ¬ nI (cL S0 r) < nI b := nI_nlt hb h31
  have es : nI n + nI b - nI a = nI (n + (b - a)) := by rw [n_add, n_sub (by omega)]; congr 1; omega
  have c4 : ¬ nI 1024 < nI (n + (b - a)) := nI_nlt hn (by decide)
  have ed : nI b - nI a = nI (b - a) := n_sub hab
  have k1 : (nI a).toNatClampNeg = a := nI_clamp (by omega)
  have k2 : (nI n).toNatClampNeg = n := nI_clamp (by omega)
  have k3 : (nI (b - a)).toNatClampNeg = b - a := nI_clamp (by omega)
  refine ⟨⟨fun z => absurd z c1, fun _ => ⟨fun z => absurd z c2, fun _ => ⟨Option.some_ne_none _, fun z => absurd z (by rw [eL]; exact c3), fun _ => ⟨fun z => absurd z (by rw [e4, es]; exact c4), fun _ => ⟨⟨Option.some_ne_none _, ⟨c1, by rw [e4]; exact nI_pos (by omega), by rw [ed]; exact nI_pos (by omega)⟩, ?_, ?_⟩, trivial⟩⟩⟩⟩⟩, va_cpy (cA S0 r) t a n (b - a), ?_, fun i hi => ?_⟩
  · rw [ed, k1, k3, eL]; omega
  · rw [e4, ed, k2, k3]; omega
  · show (if nI a < 0 then cth S0 h t n else if nI b < nI a then cth S0 h t n else if nI (cL (cth S0 h t n) (za (some r))) < nI b then cth S0 h t n else if nI 1024 < cI (cth S0 h t n) 4 h + nI b - nI a then cth S0 h t n else csI (csArow (cth S0 h t n) (h + 1) (va_cpy (cA (cth S0 h t n) (za (some r))) (cA (cth S0 h t n) (h + 1)) (nI a).toNatClampNeg (cI (cth S0 h t n) 4 h).toNatClampNeg (nI b - nI a).toNatClampNeg)) 4 h (cI (csArow (cth S0 h t n) (h + 1) (va_cpy (cA (cth S0 h t n) (za (some r))) (cA (cth S0 h t n) (h + 1)) (nI a).toNatClampNeg (cI (cth S0 h t n) 4 h).toNatClampNeg (nI b - nI a).toNatClampNeg)) 4 h + (nI b - nI a))) = _
    rw [if_neg c1, if_neg c2, eL, if_neg c3, e4, es, if_neg c4, zsome, cI_row, e4, ed, k1, k2, k3, cth_A _ _ _ _ hr, cth_A1, n_add, cth_row, cth_I]
  · show va_cpy (cA S0 r) t a n (b - a) i &&& nI 255 = if i < n then f i else cA S0 r (a + (i - n)) &&& nI 255
    unfold va_cpy
    by_cases c : i < n
    · rw [if_neg (by omega), if_pos c]
      exact ht i c
    · rw [if_pos (by omega), if_neg c]
theorem closeF {S0 S : cS} {f : Nat → Int32} {l r at_ : Nat} (hN : 1200 ≤ N) (hT : cT S0 S h f l) (hl : l ≤ 1024) (L1 : cL S0 (h + 1) = 1088) (L2 : cL S0 (h + 2) = 64) (hr : r ≠ h ∧ r ≠ h + 1 ∧ r ≠ h + 2 ∧ r ≠ h + 3) (hat : at_ + 32 ≤ cL S0 r) (h31 : cL S0 r < 2 ^ 31) : p_X2_close N g H T S h (some r) (nI at_) ∧ cfr (fun a => isH h a ∨ a = r) S0 (k_X2_close N g H T S h (some r) (nI at_)) ∧ (∀ i, i < 32 → cA (k_X2_close N g H T S h (some r) (nI at_)) r (at_ + i) &&& nI 255 = dig (sha f l) i) ∧ (∀ i, i < at_ ∨ at_ + 32 ≤ i → cA (k_X2_close N g H T S h (some r) (nI at_)) r i = cA S0 r i) ∧ cI (k_X2_close N g H T S h (some r) (nI at_)) 5 h = cI S0 5 h ∧ (r ≠ h + 4 → cA (k_X2_close N g H T S h (some r) (nI at_)) (h + 4) = cA S0 (h + 4)) := by
  obtain ⟨t, rfl, ht⟩ := hT
  obtain ⟨a1, t1, w, q, o, a2, a3, a4⟩ := close_ok (N := N) (g := g) (H := H) (T := T) (h := h) (l := l) (r := r) (at_ := at_) (f := f) (S := cth S0 h t l) hN hl L1 L2 (cth_4 _ _ _ _) (fun i hi => by rw [cth_A1]; exact ht i hi) ⟨hr.2.1, hr.2.2.1, hr.2.2.2⟩ hat h31
  rw [a2]
  refine ⟨a1, ?_, fun i hi => ?_, fun i hi => ?_, cth_I5 S0 h t l, fun h4 => ?_⟩
  · refine (((((cfr_cth S0 h t l).mono (fun a z => Or.inl z)).trans ((cfr_A _ (h + 1) t1).mono (fun a z => Or.inl ?_))).trans ((cfr_A _ (h + 2) w).mono (fun a z => Or.inl ?_))).trans ((cfr_A _ (h + 3) q).mono (fun a z => Or.inl ?_))).trans ((cfr_A _ r o).mono (fun a z => Or.inr z)) <;> (subst z; unfold isH; omega)
  · rw [cA_same]; exact a3 i hi
  · rw [cA_same, a4 i hi, cth_A _ _ _ _ hr.2.1]
  · rw [cA_other _ _ (Ne.symm h4), cA_other _ _ (by omega), cA_other _ _ (by omega), cA_other _ _ (by omega), cth_A _ _ _ _ (by omega)]
/-- the class's leaves -/
def cLf (S : cS) (h i k : Nat) : Int32 := cA S (h + 4) (32 * i + k) &&& nI 255
/-- how long the hasher's rows are -/
def hL (S : cS) (h : Nat) : Prop := cL S (h + 1) = 1088 ∧ cL S (h + 2) = 64 ∧ cL S (h + 4) = 2112
theorem hL.fr {P : Nat → Prop} {S S1 : cS} (hl : hL S h) (hf : cfr P S S1) : hL S1 h := ⟨by rw [hf.L]; exact hl.1, by rw [hf.L]; exact hl.2.1, by rw [hf.L]; exact hl.2.2⟩
theorem leafAt {S0 S : cS} {f : Nat → Int32} {l j : Nat} (hN : 1200 ≤ N) (hT : cT S0 S h f l) (hl : l ≤ 1024) (hh : hL S0 h) (hj : j < 66) : p_X2_close N g H T S h (some (h + 4)) (nI (32 * j)) ∧ cfr (isH h) S0 (k_X2_close N g H T S h (some (h + 4)) (nI (32 * j))) ∧ (∀ i k, k < 32 → cLf (k_X2_close N g H T S h (some (h + 4)) (nI (32 * j))) h i k = if i = j then dig (sha f l) k else cLf S0 h i k) ∧ cI (k_X2_close N g H T S h (some (h + 4)) (nI (32 * j))) 5 h = cI S0 5 h := by
  obtain ⟨a1, a2, a3, a4, a5, -⟩ := closeF (N := N) (g := g) (H := H) (T := T) (h := h) (r := h + 4) (at_ := 32 * j) hN hT hl hh.1 hh.2.1 (by omega) (by rw [hh.2.2]; omega) (by rw [hh.2.2]; decide)
  refine ⟨a1, a2.mono (fun a z => z.elim id (fun e => by subst e; unfold isH; omega)), fun i k hk => ?_, a5⟩
  unfold cLf
  by_cases e : i = j
  · rw [if_pos e, e]; exact a3 k hk
  · rw [if_neg e, a4 _ (by omega)]
theorem leaf1 {S0 : cS} {r a b j : Nat} (hN : 1200 ≤ N) (hh : hL S0 h) (hj : j < 66) (hr : r ≠ h + 1) (hab : a ≤ b) (hb : b ≤ cL S0 r) (h31 : cL S0 r < 2 ^ 31) (hn : b - a ≤ 1000) : ∃ S1 S2 S3, (p_X2_open N g H T S0 h ∧ k_X2_open N g H T S0 h = S1) ∧ (p_X2_add N g H T S1 h (nI 0) ∧ k_X2_add N g H T S1 h (nI 0) = S2) ∧ (p_X2_add_ N g H T S2 h (some r) (nI a) (nI b) ∧ k_X2_add_ N g H T S2 h (some r) (nI a) (nI b) = S3) ∧ p_X2_close N g H T S3 h (some (h + 4)) (nI (32 * j)) ∧ cfr (isH h) S0 (k_X2_close N g H T S3 h (some (h + 4)) (nI (32 * j))) ∧ (∀ i k, k < 32 → cLf (k_X2_close N g H T S3 h (some (h + 4)) (nI (32 * j))) h i k = if i = j then dig (leafV (fun i => cA S0 r (a + i) &&& nI 255) (b - a)) k else cLf S0 h i k) ∧ cI (k_X2_close N g H T S3 h (some (h + 4)) (nI (32 * j))) 5 h = cI S0 5 h := by
  obtain ⟨a1, a2⟩ := open_ok (N := N) (g := g) (H := H) (T := T) (h := h) S0 (fun _ => 0)
  obtain ⟨b1, b2⟩ := add_ok (N := N) (g := g) (H := H) (T := T) (nI 0) a2 (by decide)
  obtain ⟨d1, d2⟩ := addR_ok (N := N) (g := g) (H := H) (T := T) b2 hr hab hb h31 (by omega)
  obtain ⟨e1, e2, e3, e4⟩ := leafAt (N := N) (g := g) (H := H) (T := T) hN d2 (by omega) hh hj
  refine ⟨_, _, _, ⟨a1, rfl⟩, ⟨b1, rfl⟩, ⟨d1, rfl⟩, e1, e2, fun i k hk => ?_, e4⟩
  rw [e3 i k hk]
  by_cases e : i = j
  · rw [if_pos e, if_pos e]
    refine congrArg (fun v => dig v k) ?_
    unfold leafV
    rw [show 0 + 1 + (b - a) = b - a + 1 by omega]
    apply sha_congr
    intro q hq
    show (if q < 0 + 1 then (if q = 0 then nI 0 &&& nI 255 else (0 : Int32)) else cA S0 r (a + (q - (0 + 1))) &&& nI 255) = (if q = 0 then nI 0 else cA S0 r (a + (q - 1)) &&& nI 255)
    by_cases q0 : q = 0
    · rw [if_pos (by omega), if_pos q0, if_pos q0]
      decide
    · rw [if_neg (by omega), if_neg q0]
  · rw [if_neg e, if_neg e]
theorem join1 {S0 : cS} {j : Nat} (hN : 1200 ≤ N) (hh : hL S0 h) (hj : 2 * j + 2 ≤ 66) : ∃ S1 S2 S3, (p_X2_open N g H T S0 h ∧ k_X2_open N g H T S0 h = S1) ∧ (p_X2_add N g H T S1 h (nI 1) ∧ k_X2_add N g H T S1 h (nI 1) = S2) ∧ (p_X2_add_ N g H T S2 h (some (h + 4)) (nI (64 * j)) (nI (64 * j + 64)) ∧ k_X2_add_ N g H T S2 h (some (h + 4)) (nI (64 * j)) (nI (64 * j + 64)) = S3) ∧ p_X2_close N g H T S3 h (some (h + 4)) (nI (32 * j)) ∧ cfr (isH h) S0 (k_X2_close N g H T S3 h (some (h + 4)) (nI (32 * j))) ∧ (∀ i k, k < 32 → cLf (k_X2_close N g H T S3 h (some (h + 4)) (nI (32 * j))) h i k = if i = j then dig (joinV (cLf S0 h (2 * j)) (cLf S0 h (2 * j + 1))) k else cLf S0 h i k) ∧ cI (k_X2_close N g H T S3 h (some (h + 4)) (nI (32 * j))) 5 h = cI S0 5 h := by
  obtain ⟨a1, a2⟩ := open_ok (N := N) (g := g) (H := H) (T := T) (h := h) S0 (fun _ => 0)
  obtain ⟨b1, b2⟩ := add_ok (N := N) (g := g) (H := H) (T := T) (nI 1) a2 (by decide)
  obtain ⟨d1, d2⟩ := addR_ok (N := N) (g := g) (H := H) (T := T) (r := h + 4) (a := 64 * j) (b := 64 * j + 64) b2 (by omega) (by omega) (by rw [hh.2.2]; omega) (by rw [hh.2.2]; decide) (by omega)
  obtain ⟨e1, e2, e3, e4⟩ := leafAt (N := N) (g := g) (H := H) (T := T) hN d2 (by omega) hh (j := j) (by omega)
  refine ⟨_, _, _, ⟨a1, rfl⟩, ⟨b1, rfl⟩, ⟨d1, rfl⟩, e1, e2, fun i k hk => ?_, e4⟩
  rw [e3 i k hk]
  by_cases e : i = j
  · rw [if_pos e, if_pos e]
    refine congrArg (fun v => dig v k) ?_
    unfold joinV
    rw [show 0 + 1 + (64 * j + 64 - 64 * j) = 65 by omega]
    apply sha_congr
    intro q hq
    show (if q < 0 + 1 then (if q = 0 then nI 1 &&& nI 255 else (0 : Int32)) else cA S0 (h + 4) (64 * j + (q - (0 + 1))) &&& nI 255) = (if q = 0 then nI 1 else (if q - 1 < 32 then cLf S0 h (2 * j) (q - 1) else cLf S0 h (2 * j + 1) (q - 1 - 32)))
    by_cases q0 : q = 0
    · rw [if_pos (by omega), if_pos q0, if_pos q0]
      decide
    · rw [if_neg (by omega), if_neg q0]
      show cA S0 (h + 4) (64 * j + (q - (0 + 1))) &&& nI 255 = (if q - 1 < 32 then cLf S0 h (2 * j) (q - 1) else cLf S0 h (2 * j + 1) (q - 1 - 32))
      unfold cLf
      by_cases c : q - 1 < 32
      · rw [if_pos c, show 64 * j + (q - (0 + 1)) = 32 * (2 * j) + (q - 1) by omega]
      · rw [if_neg c, show 64 * j + (q - (0 + 1)) = 32 * (2 * j + 1) + (q - 1 - 32) by omega]
  · rw [if_neg e, if_neg e]
/-- one turn of the tree -/
theorem turn1 {S0 : cS} {m : Nat} {x2 : Option Nat} {x3 x4 x5 : Int32} (hN : 1200 ≤ N) (hh : hL S0 h) (hm : m ≤ 66) : KOL_X2_climb_45 N g H T N h x2 x3 x4 x5 (nI m) (nI 0) S0 ∧ ∃ S', KL_X2_climb_45 N g H T N h x2 x3 x4 x5 (nI m) (nI 0) S0 = (0, h, x2, x3, x4, x5, nI m, S') ∧ cfr (isH h) S0 S' ∧ cI S' 5 h = cI S0 5 h ∧ ∀ i k, k < 32 → cLf S' h i k = if i < m / 2 then dig (joinV (cLf S0 h (2 * i)) (cLf S0 h (2 * i + 1))) k else cLf S0 h i k := by
  have edv : nI m / nI 2 = nI (m / 2) := n_div (by omega) (by decide)
  obtain ⟨b1, S2, b2, b3, b4, b5⟩ := cloop (K := m / 2) (P := fun j S' => cfr (isH h) S0 S' ∧ cI S' 5 h = cI S0 5 h ∧ ∀ i k, k < 32 → cLf S' h i k = if i < j then dig (joinV (cLf S0 h (2 * i)) (cLf S0 h (2 * i + 1))) k else cLf S0 h i k) (E := fun S' => (0, h, x2, x3, x4, x5, nI m, S')) (fun n x S' => KOL_X2_climb_45 N g H T n h x2 x3 x4 x5 (nI m) x S') (fun n x S' => KL_X2_climb_45 N g H T n h x2 x3 x4 x5 (nI m) x S')
    (fun n S' _ => ⟨⟨fun _ => trivial, fun c => absurd (by rw [edv]; exact nI_le (Nat.le_refl _) (by omega)) c⟩, by
      show KB_X2_climb_45 N g H T (KL_X2_climb_45 N g H T n) h x2 x3 x4 x5 (nI m) (nI (m / 2)) S' = _
      unfold KB_X2_climb_45
      rw [edv, if_pos (nI_le (Nat.le_refl _) (by omega))]⟩)
    (fun n j S' hj hP => by
      obtain ⟨hf, h5, hv⟩ := hP
      have hlt : ¬ nI m / nI 2 ≤ nI j := by rw [edv]; exact nI_ge hj (by omega)
      obtain ⟨S1, S2, S3, ⟨p1, q1⟩, ⟨p2, q2⟩, ⟨p3, q3⟩, p4, q4, q5, q6⟩ := join1 (N := N) (g := g) (H := H) (T := T) (h := h) (S0 := S') (j := j) hN (hh.fr hf) (by omega)
      have e1 : nI 2 * nI j * nI 32 = nI (64 * j) := by rw [n_mul, n_mul]; congr 1; omega
      have e2 : (nI 2 * nI j + nI 2) * nI 32 = nI (64 * j + 64) := by rw [n_mul, n_add, n_mul]; congr 1; omega
      have e3 : nI j * nI 32 = nI (32 * j) := by rw [n_mul]; congr 1; omega
      refine ⟨k_X2_close N g H T S3 h (some (h + 4)) (nI (32 * j)), ⟨hf.trans q4, q6.trans h5, fun i k hk => ?_⟩, fun hh2 => ⟨fun c => absurd c hlt, fun _ => ⟨p1, ?_⟩⟩, ?_⟩
      · rw [q5 i k hk]
        by_cases e : i = j
        · rw [if_pos e, e, if_pos (by omega), joinV_congr (a' := cLf S0 h (2 * j)) (b' := cLf S0 h (2 * j + 1)) (fun t ht => by rw [hv _ _ ht, if_neg (by omega)]) (fun t ht => by rw [hv _ _ ht, if_neg (by omega)])]
        · rw [if_neg e, hv i k hk]
          by_cases c : i < j
          · rw [if_pos c, if_pos (by omega)]
          · rw [if_neg c, if_neg (by omega)]
      · rw [q1]
        refine ⟨p2, ?_⟩
        rw [q2]
        unfold KO_X2_climb_63
        rw [e1, e2]
        refine ⟨p3, ?_⟩
        rw [q3]
        unfold KO_X2_climb_87
        rw [e3]
        refine ⟨p4, ?_⟩
        unfold KO_X2_climb_100
        rw [n_add]
        exact hh2
      · show KB_X2_climb_45 N g H T (KL_X2_climb_45 N g H T n) h x2 x3 x4 x5 (nI m) (nI j) S' = _
        unfold KB_X2_climb_45 KF_X2_climb_58 KF_X2_climb_63 KF_X2_climb_87 KF_X2_climb_100
        rw [if_neg hlt, q1, q2, e1, e2, q3, e3, n_add]) (m / 2) 0 N S0 (by omega) (by omega) ⟨cfr.refl, rfl, fun i k _ => by rw [if_neg (by omega)]⟩
  exact ⟨b1, S2, b2, b3, b4, b5⟩
theorem n_and1 (m : Nat) : nI m &&& nI 1 = nI (m % 2) := by
  apply Int32.toBitVec_inj.mp
  apply BitVec.eq_of_toNat_eq
  unfold nI
  simp only [Int32.toBitVec_and, Int32.toBitVec_ofNat', BitVec.toNat_and, BitVec.toNat_ofNat]
  rw [show (1 : Nat) % 2 ^ 32 = 2 ^ 1 - 1 by decide, Nat.and_two_pow_sub_one_eq_mod]
  have h1 : m % 2 ^ 32 % 2 ^ 1 = m % 2 ^ 1 := Nat.mod_mod_of_dvd m ⟨2 ^ 31, by decide⟩
  rw [h1]
  have h2 : m % 2 < 2 ^ 32 := Nat.lt_of_lt_of_le (Nat.mod_lt _ (by decide)) (by decide)
  rw [Nat.mod_eq_of_lt h2]
theorem turn2 {S0 : cS} {m : Nat} (hh : hL S0 h) (hm : m ≤ 66) (h1 : 1 < m) {rec : Nat → Option Nat → Int32 → Int32 → Int32 → Int32 → cS → Nat × Int32 × Int32 × cS} {rok : Nat → Option Nat → Int32 → Int32 → Int32 → Int32 → cS → Prop} {x2 : Option Nat} {x3 x4 x5 : Int32} (S' : cS) (hf : cfr (isH h) S0 S') (h5 : cI S' 5 h = cI S0 5 h) (hv : ∀ i k, k < 32 → cLf S' h i k = if i < m / 2 then dig (joinV (cLf S0 h (2 * i)) (cLf S0 h (2 * i + 1))) k else cLf S0 h i k) : ∃ S2, (rok h x2 x3 x4 x5 (nI ((m + 1) / 2)) S2 → KO_X2_climb_106 N g H T rok h x2 x3 x4 x5 (nI m) S') ∧ KF_X2_climb_106 N g H T rec h x2 x3 x4 x5 (nI m) S' = rec h x2 x3 x4 x5 (nI ((m + 1) / 2)) S2 ∧ cfr (isH h) S0 S2 ∧ cI S2 5 h = cI S0 5 h ∧ ∀ i k, i < (m + 1) / 2 → k < 32 → cLf S2 h i k = nextL (cLf S0 h) m i k := by
  have ea := n_and1 m
  have en : (nI m + nI 1) / nI 2 = nI ((m + 1) / 2) := by rw [n_add, n_div (by omega) (by decide)]
  have e32 : (nI 32).toNatClampNeg = 32 := rfl
  by_cases odd : m % 2 = 1
  · have c : nI m &&& nI 1 = nI 1 := by rw [ea, odd]
    have e1 : (nI m - nI 1) * nI 32 = nI (32 * (m - 1)) := by rw [n_sub (by omega), n_mul]; congr 1; omega
    have e2 : nI m / nI 2 * nI 32 = nI (32 * (m / 2)) := by rw [n_div (by omega) (by decide), n_mul]; congr 1; omega
    have k1 : (nI (32 * (m - 1))).toNatClampNeg = 32 * (m - 1) := nI_clamp (by omega)
    have k2 : (nI (32 * (m / 2))).toNatClampNeg = 32 * (m / 2) := nI_clamp (by omega)
    refine ⟨csArow S' (h + 4) (va_cpy (cA S' (h + 4)) (cA S' (h + 4)) (32 * (m - 1)) (32 * (m / 2)) 32), fun hr => ⟨fun _ => ⟨⟨⟨?_, ?_, by decide⟩, ?_, ?_⟩, ?_⟩, fun z => absurd c z⟩, ?_, hf.trans ((cfr_A S' (h + 4) _).mono (fun a e => by subst e; unfold isH; omega)), h5, fun i k hi hk => ?_⟩
    · rw [e1]; exact nI_pos (by omega)
    · rw [e2]; exact nI_pos (by omega)
    · rw [e1, k1, e32]; omega
    · rw [e2, k2, e32]; omega
    · rw [e1, e2, k1, k2, e32]
      unfold KO_X2_climb_141
      rw [en]
      exact hr
    · unfold KF_X2_climb_106 KF_X2_climb_141
      rw [if_pos c, e1, e2, k1, k2, e32, en]
    · unfold nextL
      have e4 : cLf (csArow S' (h + 4) (va_cpy (cA S' (h + 4)) (cA S' (h + 4)) (32 * (m - 1)) (32 * (m / 2)) 32)) h i k = va_cpy (cA S' (h + 4)) (cA S' (h + 4)) (32 * (m - 1)) (32 * (m / 2)) 32 (32 * i + k) &&& nI 255 := by
        unfold cLf
        rw [cA_same]
      rw [e4]
      unfold va_cpy
      by_cases ci : i < m / 2
      · rw [if_neg (by omega), if_pos ci]
        have := hv i k hk
        rw [if_pos ci] at this
        exact this
      · rw [if_pos (by omega), if_neg ci]
        have := hv (2 * i) k hk
        rw [if_neg (by omega)] at this
        rw [← this]
        unfold cLf
        rw [show 32 * (m - 1) + (32 * i + k - 32 * (m / 2)) = 32 * (2 * i) + k by omega]
  · have c : ¬ nI m &&& nI 1 = nI 1 := by
      rw [ea]
      intro z
      exact odd (n_inj (by omega) (by decide) z)
    refine ⟨S', fun hr => ⟨fun z => absurd z c, fun _ => ?_⟩, ?_, hf, h5, fun i k hi hk => ?_⟩
    · unfold KO_X2_climb_141
      rw [en]
      exact hr
    · unfold KF_X2_climb_106 KF_X2_climb_141
      rw [if_neg c, en]
    · unfold nextL
      have ci : i < m / 2 := by omega
      rw [hv i k hk, if_pos ci, if_pos ci]
/-- climb with no leaf to follow -/
theorem climb_ok {S0 : cS} {m : Nat} {x2 : Option Nat} {x3 : Int32} (hN : 1200 ≤ N) (hh : hL S0 h) (hm : m ≤ 66) (h5 : cI S0 5 h = nI m) : p_X2_climb N g H T S0 h (-1) x2 x3 ∧ ∃ S', k_X2_climb N g H T S0 h (-1) x2 x3 = (x3 - x3, S') ∧ cfr (isH h) S0 S' ∧ cI S' 5 h = nI m ∧ ∀ k, k < 32 → cLf S' h 0 k = topL (cLf S0 h) m k := by
  have neg : (-1 : Int32) < 0 := by decide
  have lp : ∀ (m n : Nat) (S : cS), m ≤ 66 → m < n → hL S h → KOL_X2_climb_12 N g H T n h x2 x3 (-1) x3 (nI m) S ∧ ∃ S', KL_X2_climb_12 N g H T n h x2 x3 (-1) x3 (nI m) S = (0, x3, x3, S') ∧ cfr (isH h) S S' ∧ cI S' 5 h = cI S 5 h ∧ ∀ k, k < 32 → cLf S' h 0 k = topL (cLf S h) m k := by
    intro m
    induction m using Nat.strongRecOn with
    | ind m ih =>
      intro n S hm hn hh
      obtain ⟨n, rfl⟩ := exs (show 0 < n by omega)
      by_cases h1 : m ≤ 1
      · have c : nI m ≤ nI 1 := nI_le h1 (by decide)
        refine ⟨⟨fun _ => trivial, fun z => absurd c z⟩, S, ?_, cfr.refl, rfl, fun k _ => by rw [topL_lo h1]⟩
        show KB_X2_climb_12 N g H T (KL_X2_climb_12 N g H T n) h x2 x3 (-1) x3 (nI m) S = _
        unfold KB_X2_climb_12
        rw [if_pos c]
      · have c : ¬ nI m ≤ nI 1 := nI_ge (by omega) (by omega)
        obtain ⟨a1, S1, a2, a3, a4, a5⟩ := turn1 (N := N) (g := g) (H := H) (T := T) (h := h) (S0 := S) (m := m) (x2 := x2) (x3 := x3) (x4 := -1) (x5 := x3) hN hh hm
        obtain ⟨S2, b1, b2, b3, b4, b5⟩ := turn2 (N := N) (g := g) (H := H) (T := T) (h := h) (S0 := S) (m := m) hh hm (by omega) (rec := KL_X2_climb_12 N g H T n) (rok := KOL_X2_climb_12 N g H T n) (x2 := x2) (x3 := x3) (x4 := -1) (x5 := x3) S1 a3 a4 a5
        obtain ⟨i1, S', i2, i3, i4, i5⟩ := ih ((m + 1) / 2) (by omega) n S2 (by omega) (by omega) (hh.fr b3)
        refine ⟨⟨fun z => absurd z c, fun _ => ⟨fun _ => ⟨a1, ?_⟩, fun z => absurd neg z⟩⟩, S', ?_, b3.trans i3, i4.trans b4, fun k hk => ?_⟩
        · rw [a2]
          exact b1 i1
        · show KB_X2_climb_12 N g H T (KL_X2_climb_12 N g H T n) h x2 x3 (-1) x3 (nI m) S = _
          unfold KB_X2_climb_12 KF_X2_climb_42
          rw [if_neg c, if_pos neg, a2]
          show KF_X2_climb_106 N g H T (KL_X2_climb_12 N g H T n) h x2 x3 (-1) x3 (nI m) S1 = _
          rw [b2, i2]
        · rw [i5 k hk, topL_hi h1]
          exact topL_congr _ _ _ (fun i k hi hk => b5 i k (by omega) hk) k hk
  obtain ⟨a1, S', a2, a3, a4, a5⟩ := lp m N S0 hm (by omega) hh
  refine ⟨⟨by rw [h5]; exact a1, trivial⟩, S', ?_, a3, a4.trans h5, a5⟩
  show KF_X2_climb_152 N g H T (KL_X2_climb_12 N g H T N h x2 x3 (-1) x3 (cI S0 5 h) S0).2.1 _ _ = _
  rw [h5, a2]
  rfl
end CTR
