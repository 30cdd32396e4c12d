section
/-! THE CLASS'S BOOK: accounts as bytes, their root -/
theorem n_shrK {a k : Nat} (ha : a < 2 ^ 31) (hk : k < 16) : nI a >>> (nI k &&& 31) = nI (a / 2 ^ k) := by
  apply Int32.toBitVec_inj.mp
  show (nI a).toBitVec.sshiftRight' ((nI k &&& 31).toBitVec.smod 32) = _
  have e1 : ((nI k &&& 31).toBitVec.smod 32) = BitVec.ofNat 32 k := by
    rcases (show k = 0 ∨ k = 1 ∨ k = 2 ∨ k = 3 ∨ k = 4 ∨ k = 5 ∨ k = 6 ∨ k = 7 ∨ k = 8 ∨ k = 9 ∨ k = 10 ∨ k = 11 ∨ k = 12 ∨ k = 13 ∨ k = 14 ∨ k = 15 by omega) with rfl | rfl | rfl | rfl | rfl | rfl | rfl | rfl | rfl | rfl | rfl | rfl | rfl | rfl | rfl | rfl <;> decide
  rw [e1]
  show (nI a).toBitVec.sshiftRight (BitVec.ofNat 32 k).toNat = _
  rw [BitVec.toNat_ofNat, Nat.mod_eq_of_lt (by omega)]
  have m : (nI a).toBitVec.msb = false := by
    show (BitVec.ofNat 32 a).msb = false
    rw [BitVec.msb_eq_decide, BitVec.toNat_ofNat, Nat.mod_eq_of_lt (by omega)]
    simp
    omega
  rw [BitVec.sshiftRight_eq_of_msb_false m]
  apply BitVec.eq_of_toNat_eq
  show ((BitVec.ofNat 32 a) >>> k).toNat = (BitVec.ofNat 32 (a / 2 ^ k)).toNat
  have : a / 2 ^ k ≤ a := Nat.div_le_self _ _
  rw [BitVec.toNat_ushiftRight, BitVec.toNat_ofNat, BitVec.toNat_ofNat, Nat.mod_eq_of_lt (show a < 2 ^ 32 by omega), Nat.mod_eq_of_lt (show a / 2 ^ k < 2 ^ 32 by omega), Nat.shiftRight_eq_div_pow]
theorem sb2 {x : Nat} : ((nI x).toInt8.toInt32).toInt8.toInt32 = sb (x % 256) := by rw [b88, sb_n]
section
variable {N g H T o r a x : Nat} {s : cS} {k : Bk} {m : List Nat}
theorem putTwo_c (ha : a + 2 ≤ cL s r) (hl : cL s r ≤ 3000) (hx : x < 2 ^ 31) : p_X11_putTwo N g H T s (some r) (nI a) (nI x) ∧ k_X11_putTwo N g H T s (some r) (nI a) (nI x) = csA (csA s r a (sb (x / 256 % 256))) r (a + 1) (sb (x % 256)) := by
  show wp (KO_X11_putTwo_0 N g H T (some r) (nI a) (nI x) s) (KF_X11_putTwo_0 N g H T (some r) (nI a) (nI x) s) (fun z => z = csA (csA s r a (sb (x / 256 % 256))) r (a + 1) (sb (x % 256)))
  unfold KO_X11_putTwo_0 KF_X11_putTwo_0
  rw [zsome r, n_sub (by omega), n_shrK hx (by decide), sb2, sb2, n_add, n_clamp (by omega), n_clamp (by omega)]
  refine wp_neg (n_lt0 (by omega)) (wp_and someN (wp_neg (by rw [n_lt' (by omega) (by omega)]; omega) (wp_and ⟨someN, ((n_in (by omega)).2 (by omega))⟩ (wp_and ⟨someN, ?_⟩ (wp_fin trivial rfl)))))
  show vp_in (nI (a + 1)) (cL s r)
  exact ((n_in (by omega)).2 (by omega))
theorem bg6 (a b c d e f : Nat) : bg [a, b, c, d, e, f] 0 = a ∧ bg [a, b, c, d, e, f] 1 = b ∧ bg [a, b, c, d, e, f] 2 = c ∧ bg [a, b, c, d, e, f] 3 = d ∧ bg [a, b, c, d, e, f] 4 = e ∧ bg [a, b, c, d, e, f] 5 = f := ⟨rfl, rfl, rfl, rfl, rfl, rfl⟩
theorem enc_55 {q : Nat} (h : bkC s o k) (ok : bkOK k) (hq : q < 16) (ha : a + 6 ≤ cL s r) (hl : cL s r ≤ 3000) : wp (KO_X0_encode_55 N g H T o (nI q) (some r) (nI a) s) (KF_X0_encode_55 N g H T o (nI q) (some r) (nI a) s) (fun z => z = csA s r (a + 5) (sb (k (32 + q)).toNat)) := by
  have l3 := ok.2.2.2 _ hq
  obtain ⟨g1, g2⟩ := hasPaid_ok (N := N) (g := g) (H := H) (T := T) h hq
  unfold KO_X0_encode_55 KF_X0_encode_55
  rw [g2]
  unfold KO_X0_encode_72 KF_X0_encode_72
  rw [zsome r, n_add, n_clamp (by omega)]
  have i5 : vp_in (nI (a + 5)) (cL s r) := ((n_in (by omega)).2 (by omega))
  refine wp_and g1 ?_
  by_cases c : k (32 + q) = 0
  · rw [if_pos c, c]
    exact wp_pos rfl (wp_fin ⟨⟨someN, i5⟩, trivial⟩ rfl)
  · rw [if_neg c, l3.resolve_left c]
    exact wp_neg (by decide) (wp_fin ⟨⟨someN, i5⟩, trivial⟩ rfl)
theorem bkC.ob {i : Nat} {v : Int32} (h : bkC s o k) (hr : r ≠ o ∧ r ≠ o + 1 ∧ r ≠ o + 2) : bkC (csA s r i v) o k := ⟨fun j hj => by rw [cA_ne _ _ _ (fun z => hr.2.1 z.symm), cA_ne _ _ _ (fun z => hr.2.2 z.symm)]; exact h.1 j hj, h.2⟩
theorem cL_A (s : cS) (a i b : Nat) (v : Int32) : cL (csA s a i v) b = cL s b := rfl
theorem enc_42 {q : Nat} (h : bkC s o k) (ok : bkOK k) (hq : q < 16) (hr : r ≠ o ∧ r ≠ o + 1 ∧ r ≠ o + 2) (ha : a + 6 ≤ cL s r) (hl : cL s r ≤ 3000) : wp (KO_X0_encode_42 N g H T o (nI q) (some r) (nI a) s) (KF_X0_encode_42 N g H T o (nI q) (some r) (nI a) s) (fun z => z = csA (csA (csA s r (a + 3) (sb ((k (16 + q)).toNat / 256 % 256))) r (a + 3 + 1) (sb ((k (16 + q)).toNat % 256))) r (a + 5) (sb (k (32 + q)).toNat)) := by
  have l2 := ok.2.2.1 _ hq
  have v2 : iI (k (16 + q)) = nI (k (16 + q)).toNat := by
    rw [← iI_n]
    congr 1
    omega
  unfold KO_X0_encode_42 KF_X0_encode_42
  rw [n_clamp (by omega), (h.1 q hq).2, v2, n_add]
  obtain ⟨p3, p4⟩ := putTwo_c (N := N) (g := g) (H := H) (T := T) (s := s) (r := r) (a := a + 3) (x := (k (16 + q)).toNat) (by omega) hl (by omega)
  refine wp_and ((n_in (by omega)).2 (by omega)) (wp_and p3 ?_)
  generalize sb ((k (16 + q)).toNat / 256 % 256) = b3 at p4 ⊢
  generalize sb ((k (16 + q)).toNat % 256) = b4 at p4 ⊢
  rw [p4]
  exact enc_55 ((h.ob hr).ob hr) ok hq (by rw [cL_A, cL_A]; exact ha) (by rw [cL_A, cL_A]; exact hl)
/-- an account is written -/
theorem encode_c {q : Nat} (h : bkC s o k) (ok : bkOK k) (hq : q < 16) (hr : r ≠ o ∧ r ≠ o + 1 ∧ r ≠ o + 2) (ha : a + 6 ≤ cL s r) (hl : cL s r ≤ 3000) : wp (p_X0_encode N g H T s o (nI q) (some r) (nI a)) (k_X0_encode N g H T s o (nI q) (some r) (nI a)) (fun z => ∃ f, z = csArow s r f ∧ ∀ i, f i = if a ≤ i ∧ i < a + 6 then sb (bg (acP k q) (i - a)) else cA s r i) := by
  have l1 := ok.le hq
  have v1 : iI (k q) = nI (k q).toNat := by
    rw [← iI_n]
    congr 1
    omega
  have q256 : q % 256 = q := by omega
  have w256 : (k q).toNat / 256 % 256 = (k q).toNat / 256 := by omega
  show wp (KO_X0_encode_0 N g H T o (nI q) (some r) (nI a) s) (KF_X0_encode_0 N g H T o (nI q) (some r) (nI a) s) _
  unfold KO_X0_encode_0 KF_X0_encode_0
  rw [zsome r, n_sub (by omega), sb2, n_clamp (by omega), n_clamp (by omega), n_add, cA_ne _ _ _ (fun z => hr.2.1 z.symm), (h.1 q hq).1, v1, q256]
  generalize hb0 : sb q = b0
  obtain ⟨p1, p2⟩ := putTwo_c (N := N) (g := g) (H := H) (T := T) (s := csA s r a b0) (r := r) (a := a + 1) (x := (k q).toNat) (by rw [cL_A]; omega) (by rw [cL_A]; exact hl) (by omega)
  refine wp_neg (n_lt0 (by omega)) (wp_neg (by rw [n_le' (by omega) (by omega)]; omega) (wp_neg (n_lt0 (by omega)) (wp_and someN (wp_pos (by rw [n_le' (by omega) (by omega)]; omega) (wp_and ⟨someN, ((n_in (by omega)).2 (by omega))⟩ (wp_and ((n_in (by omega)).2 (by omega)) (wp_and p1 ?_)))))))
  rw [w256] at p2
  generalize hb1 : sb ((k q).toNat / 256) = b1 at p2
  generalize hb2 : sb ((k q).toNat % 256) = b2 at p2
  rw [p2]
  refine wp_mono (enc_42 (((h.ob hr).ob hr).ob hr) ok hq hr (by rw [cL_A, cL_A, cL_A]; exact ha) (by rw [cL_A, cL_A, cL_A]; exact hl)) (fun e => ?_)
  rw [e]
  generalize hb3 : sb ((k (16 + q)).toNat / 256 % 256) = b3
  generalize hb4 : sb ((k (16 + q)).toNat % 256) = b4
  generalize hb5 : sb (k (32 + q)).toNat = b5
  refine ⟨upd (upd (upd (upd (upd (upd (cA s r) a b0) (a + 1) b1) (a + 1 + 1) b2) (a + 3) b3) (a + 3 + 1) b4) (a + 5) b5, ?_, fun i => ?_⟩
  · rw [csA_row, csA_row, csA_row, csA_row, csA_row, csA_row, row_row, row_row, row_row, row_row, row_row, cA_same, cA_same, cA_same, cA_same, cA_same]
  by_cases c : a ≤ i ∧ i < a + 6
  · rw [if_pos c]
    obtain ⟨d, rfl⟩ : ∃ d, i = a + d := ⟨i - a, by omega⟩
    rw [show a + d - a = d by omega]
    unfold acP upd
    rcases (show d = 0 ∨ d = 1 ∨ d = 2 ∨ d = 3 ∨ d = 4 ∨ d = 5 by omega) with rfl | rfl | rfl | rfl | rfl | rfl
    · rw [if_neg (by omega), if_neg (by omega), if_neg (by omega), if_neg (by omega), if_neg (by omega), if_pos (by omega), ← hb0, (bg6 _ _ _ _ _ _).1]
    · rw [if_neg (by omega), if_neg (by omega), if_neg (by omega), if_neg (by omega), if_pos (by omega), ← hb1, (bg6 _ _ _ _ _ _).2.1]
    · rw [if_neg (by omega), if_neg (by omega), if_neg (by omega), if_pos (by omega), ← hb2, (bg6 _ _ _ _ _ _).2.2.1]
    · rw [if_neg (by omega), if_neg (by omega), if_pos (by omega), ← hb3, (bg6 _ _ _ _ _ _).2.2.2.1]
    · rw [if_neg (by omega), if_pos (by omega), ← hb4, (bg6 _ _ _ _ _ _).2.2.2.2.1]
    · rw [if_pos (by omega), ← hb5, (bg6 _ _ _ _ _ _).2.2.2.2.2]
  · rw [if_neg c]
    unfold upd
    rw [if_neg (by omega), if_neg (by omega), if_neg (by omega), if_neg (by omega), if_neg (by omega), if_neg (by omega)]
/-- a leaf -/
theorem leaf_c {h b j : Nat} (hN : 1200 ≤ N) (hh : hL s h) (h5 : cI s 5 h = nI j) (hj : j < 66) (hr : r ≠ h + 1) (hab : a ≤ b) (hb : b ≤ cL s r) (h31 : cL s r < 2 ^ 31) (hn : b - a ≤ 1000) : wp (p_X2_leaf N g H T s h (some r) (nI a) (nI b)) (k_X2_leaf N g H T s h (some r) (nI a) (nI b)) (fun z => cfr (isH h) s z ∧ (∀ i k, k < 32 → cLf z h i k = if i = j then dig (leafV (fun i => cA s r (a + i) &&& nI 255) (b - a)) k else cLf s h i k) ∧ cI z 5 h = nI (j + 1)) := by
  obtain ⟨S1, S2, S3, ⟨a1, a2⟩, ⟨b1, b2⟩, ⟨c1, c2⟩, d1, d2, d3, d4⟩ := leaf1 (N := N) (g := g) (H := H) (T := T) (h := h) (S0 := s) (r := r) (a := a) (b := b) (j := j) hN hh hj hr hab hb h31 hn
  obtain ⟨_, e2⟩ := open_ok (N := N) (g := g) (H := H) (T := T) (h := h) s (fun _ => 0)
  obtain ⟨_, e3⟩ := add_ok (N := N) (g := g) (H := H) (T := T) (nI 0) e2 (by decide)
  obtain ⟨_, e4⟩ := addR_ok (N := N) (g := g) (H := H) (T := T) e3 hr hab hb h31 (by omega)
  rw [a2, b2, c2] at e4
  obtain ⟨t, et, _⟩ := e4
  have i5 : cI S3 5 h = nI j := by rw [et, cth_I5]; exact h5
  show wp (KO_X2_leaf_0 N g H T h (some r) (nI a) (nI b) s) (KF_X2_leaf_0 N g H T h (some r) (nI a) (nI b) s) _
  unfold KO_X2_leaf_0 KF_X2_leaf_0 KO_X2_leaf_13 KF_X2_leaf_13 KO_X2_leaf_18 KF_X2_leaf_18 KO_X2_leaf_25 KF_X2_leaf_25 KO_X2_leaf_40 KF_X2_leaf_40 KO_X2_leaf_50 KF_X2_leaf_50
  rw [a2, b2, c2, i5, h5, n_mul, show j * 32 = 32 * j by omega]
  generalize k_X2_close N g H T S3 h (some (h + 4)) (nI (32 * j)) = z at d1 d2 d3 d4 ⊢
  have z5 : cI z 5 h = nI j := d4.trans h5
  rw [z5, n_add]
  refine wp_neg (by rw [n_le' (by omega) (by omega)]; omega) (wp_and a1 (wp_and b1 (wp_and c1 (wp_and d1 (wp_fin trivial ⟨d2.trans ((cfr_I _ _ _ _).mono (fun x z => by unfold isH; omega)), fun i k hk => ?_, cI_same _ _ _ _⟩)))))
  have : cLf (csI z 5 h (nI (j + 1))) h i k = cLf z h i k := rfl
  rw [this]
  exact d3 i k hk
theorem acL_pg {p : Nat} (hp : p < 16) : pg (acL k 16) p = acP k p := by
  unfold acL
  rw [pg_map, if_pos hp]
/-- the accounts become the leaves -/
theorem bplant_c {h : Nat} (hN : 1300 ≤ N) (hb : bkC s o k) (ok : bkOK k) (hh : hL s h) (hd : o + 5 ≤ h ∨ h + 5 ≤ o) (hl : cL s (o + 4) = 6) : wp (p_X0_plant N g H T s o h) (k_X0_plant N g H T s o h) (fun z => cfr (fun x => isH h x ∨ x = o + 4) s z ∧ cI z 5 h = nI 16 ∧ ∀ p i, p < 16 → i < 32 → cLf z h p i = lfP (acL k 16) p i) := by
  show wp (KO_X0_plant_0 N g H T o h s) (KF_X0_plant_0 N g H T o h s) _
  unfold KO_X0_plant_0 KF_X0_plant_0 KO_X0_plant_4 KF_X0_plant_4
  refine wp_and trivial ?_
  have c0 : k_X2_clear N g H T s h = csI s 5 h (nI 0) := rfl
  rw [c0]
  refine wp_seq (Q := fun z : Nat × cS => cfr (fun x => isH h x ∨ x = o + 4) s z.2 ∧ cI z.2 5 h = nI 16 ∧ ∀ p i, p < 16 → i < 32 → cLf z.2 h p i = lfP (acL k 16) p i) ?_ (fun z hz => wp_fin trivial hz)
  refine wp_loop (K := 16) (fun j (x : cS) => cfr (fun x => isH h x ∨ x = o + 4) s x ∧ cI x 5 h = nI j ∧ ∀ p i, p < j → i < 32 → cLf x h p i = lfP (acL k 16) p i) (fun n j x => KOL_X0_plant_6 N g H T n o h (nI j) x) (fun n j x => KL_X0_plant_6 N g H T n o h (nI j) x) (fun n j x hj hI ih => ?_) 0 N (csI s 5 h (nI 0)) (by omega) (by omega) ⟨(cfr_I _ _ _ _).mono (fun x z => Or.inl (by unfold isH; omega)), cI_same _ _ _ _, fun p i hp => absurd hp (by omega)⟩
  obtain ⟨i1, i2, i3⟩ := hI
  unfold KOL_X0_plant_6 KL_X0_plant_6 KOB_X0_plant_6 KB_X0_plant_6
  by_cases c : j = 16
  · subst c
    exact wp_pos (by rw [n_le' (by omega) (by omega)]; omega) (wp_fin trivial ⟨i1, i2, i3⟩)
  have nP : ∀ d, d < 4 → ¬ (isH h (o + d) ∨ o + d = o + 4) := fun d hd' => by unfold isH; omega
  have bx : bkC x o k := ⟨fun a ha => by rw [i1.A _ (nP 1 (by decide)), i1.A _ (nP 2 (by decide))]; exact hb.1 a ha, by rw [i1.I 2 o (nP 0 (by decide))]; exact hb.2⟩
  have lx : cL x (o + 4) = 6 := by rw [i1.L]; exact hl
  refine wp_neg (by rw [n_le' (by omega) (by omega)]; omega) (wp_call (encode_c (N := N) (g := g) (H := H) (T := T) (q := j) (r := o + 4) (a := 0) bx ok (by omega) (by omega) (by omega) (by omega)) ?_)
  rintro ⟨f, fe, ff⟩
  rw [fe]
  unfold KO_X0_plant_22 KF_X0_plant_22
  have hx : hL (csArow x (o + 4) f) h := (hh.fr i1).fr (cfr_A _ _ _)
  refine wp_call (leaf_c (N := N) (g := g) (H := H) (T := T) (s := csArow x (o + 4) f) (h := h) (r := o + 4) (a := 0) (b := 6) (j := j) (by omega) hx i2 (by omega) (by omega) (by omega) (by show 6 ≤ cL x (o + 4); omega) (by show cL x (o + 4) < 2 ^ 31; omega) (by omega)) ?_
  rintro ⟨g1, g2, g3⟩
  generalize k_X2_leaf N g H T (csArow x (o + 4) f) h (some (o + 4)) (nI 0) (nI 6) = z at g1 g2 g3 ⊢
  unfold KO_X0_plant_33 KF_X0_plant_33
  rw [n_add]
  refine ih z ⟨(i1.trans ((cfr_A _ _ _).mono (fun x z => Or.inr z))).trans (g1.mono (fun x z => Or.inl z)), g3, fun p i hp hi => ?_⟩ (by omega)
  rw [g2 p i hi]
  by_cases e : p = j
  · rw [if_pos e, cA_same]
    subst e
    refine lfP_leafV (ps := acL k 16) (by rw [acL_pg (by omega)]; rfl) (fun i hi => ?_) hi
    rw [acL_pg (by omega), ff, if_pos (by omega)]
    show sb (bg (acP k p) (0 + i - 0)) &&& nI 255 = _
    rw [show 0 + i - 0 = i by omega]
    exact sb_and _ (acP_B ok (by omega) i)
  · rw [if_neg e]
    have e4 : cLf (csArow x (o + 4) f) h p i = cLf x h p i := by
      unfold cLf
      rw [cA_other _ _ (by omega)]
    rw [e4]
    exact i3 p i (by omega) hi
theorem acR_cg {k' : Bk} (h : agB k k') : acR k = acR k' := by
  unfold acR acL
  congr 1
  apply List.map_congr_left
  intro a ha
  have ha' : a < 16 := List.mem_range.1 ha
  unfold acP
  rw [h a (by omega), h (16 + a) (by omega), h (32 + a) (by omega)]
/-- the root is made anew, if it must be -/
def rfP (g o x : Nat) : Prop := isH (g + 3) x ∨ (g + 23 ≤ x ∧ x ≤ g + 27) ∨ x = o ∨ x = o + 3
theorem refresh_c (hN : 2100 ≤ N) (hS : St 0 g H T s) (to : isO g H 0 o) (ho : g + 31 ≤ o) (hb : bkC s o k) (ok : bkOK k) (hr : rtC s o k) (hl : kLa g s) : wp (p_X0_refresh N g H T s o (g + 3) (g + 23)) (k_X0_refresh N g H T s o (g + 3) (g + 23)) (fun z => cfr (rfP g o) s z ∧ bkC z o k ∧ cI z 5 o = nI 0 ∧ (∀ i, i < 32 → cA z (o + 3) i = sb (bg (acR k) i)) ∧ kLa g z) := by
  have hh := hS.hL
  have tl : isO g H 0 (g + 23) := Or.inl ⟨rfl, Or.inr (Or.inl rfl)⟩
  show wp (KO_X0_refresh_0 N g H T o (g + 3) (g + 23) s) (KF_X0_refresh_0 N g H T o (g + 3) (g + 23) s) _
  unfold KO_X0_refresh_0 KF_X0_refresh_0
  rcases hr with hr | ⟨hr, hr2⟩
  rotate_left
  · rw [hr]
    exact wp_pos rfl (wp_fin trivial ⟨cfr.refl, hb, hr, hr2, hl⟩)
  rw [hr]
  refine wp_neg (by decide) ?_
  obtain ⟨k', ok', l1, l2⟩ := hl
  have end_ : ∀ s1 : cS, ∀ k1 : Bk, cfr (rfP g o) s s1 → bkC s1 o k → bkC s1 (g + 23) k1 → bkOK k1 → agB k k1 → cI s1 5 (g + 23) = nI 0 → (∀ i, i < 32 → cA s1 (g + 26) i = sb (bg (acR k) i)) → wp (KO_X0_refresh_58 N g H T o (g + 23) s1) (KF_X0_refresh_58 N g H T o (g + 23) s1) (fun z => cfr (rfP g o) s z ∧ bkC z o k ∧ cI z 5 o = nI 0 ∧ (∀ i, i < 32 → cA z (o + 3) i = sb (bg (acR k) i)) ∧ kLa g z) := fun s1 k1 f1 b1 b2 ok1 ag e5 rt => by
    unfold KO_X0_refresh_58 KF_X0_refresh_58 KO_X0_refresh_73 KF_X0_refresh_73
    have e0 : (nI 0).toNatClampNeg = 0 := rfl
    have e32 : (nI 32).toNatClampNeg = 32 := rfl
    rw [e0, e32]
    refine wp_and (by decide) (wp_fin trivial ⟨?_, ?_, cI_same _ _ _ _, fun i hi => ?_, k1, ok1, ?_, Or.inr ⟨?_, fun i hi => ?_⟩⟩)
    · exact f1.trans (((cfr_A _ _ _).mono (fun x z => by unfold rfP; omega)).trans ((cfr_I _ _ _ _).mono (fun x z => by unfold rfP; omega)))
    · refine ⟨fun a ha => ?_, ?_⟩
      · rw [cA_I, cA_I, cA_other _ _ (by omega), cA_other _ _ (by omega)]
        exact b1.1 a ha
      · rw [cI_other _ _ (Or.inl (by decide))]
        exact b1.2
    · rw [cA_I, cA_same, va_cpy0 _ _ _ _ hi]
      exact rt i hi
    · refine ⟨fun a ha => ?_, ?_⟩
      · rw [cA_I, cA_I, cA_other _ _ (by omega), cA_other _ _ (by omega)]
        exact b2.1 a ha
      · rw [cI_other _ _ (Or.inl (by decide))]
        exact b2.2
    · rw [cI_other _ _ (Or.inr (by omega))]
      exact e5
    · rw [cA_I, cA_other _ _ (by omega), ← acR_cg ag]
      exact rt i hi
  have anew : wp (KO_X0_refresh_23 N g H T o (g + 3) (g + 23) s) (KF_X0_refresh_23 N g H T o (g + 3) (g + 23) s) (fun z => cfr (rfP g o) s z ∧ bkC z o k ∧ cI z 5 o = nI 0 ∧ (∀ i, i < 32 → cA z (o + 3) i = sb (bg (acR k) i)) ∧ kLa g z) := by
    unfold KO_X0_refresh_23 KF_X0_refresh_23
    refine wp_call (mirror_c (N := N) (g := g) (H := H) (T := T) (o := g + 23) hb (Or.inr (by omega))) ?_
    rintro ⟨m1, m2⟩
    have p1 := (mirror_c (N := N) (g := g) (H := H) (T := T) (o := g + 23) hb (Or.inr (by omega))).1
    have S1 := (kpc_X0_mirror hS tl to p1).1
    generalize k_X0_mirror N g H T s (g + 23) o = s1 at m1 m2 S1 ⊢
    have f1 : cfr (rfP g o) s s1 := m1.1.mono (fun x z => by unfold rfP; omega)
    unfold KO_X0_refresh_28 KF_X0_refresh_28
    have L4 : cL s1 (g + 23 + 4) = 6 := S1.rl tl (k := 4) rfl (by omega) (by omega)
    have pl := bplant_c (N := N) (g := g) (H := H) (T := T) (h := g + 3) (by omega) m2 ok S1.hL (Or.inr (by omega)) L4
    refine wp_call pl ?_
    rintro ⟨q1, q2, q3⟩
    have S2 := (kpc_X0_plant S1 tl oH pl.1).1
    generalize k_X0_plant N g H T s1 (g + 23) (g + 3) = s2 at q1 q2 q3 S2 ⊢
    have f2 : cfr (rfP g o) s s2 := f1.trans (q1.mono (fun x z => by unfold rfP; unfold isH at z ⊢; omega))
    unfold KO_X0_refresh_33 KF_X0_refresh_33
    obtain ⟨c1, s3, c2, c3, c4, c5⟩ := climb_ok (N := N) (g := g) (H := H) (T := T) (h := g + 3) (S0 := s2) (m := 16) (x2 := some (g + 23 + 3)) (x3 := nI 0) (by omega) S2.hL (by omega) q2
    have k3 : cK s2 (g + 23 + 3) = 20 := (S2.2.1 0 3 (g + 23) tl (by omega) _ rfl).2.1
    have L3 : cL s2 (g + 23 + 3) = 32 := S2.rl tl (k := 3) rfl (by omega) (by omega)
    have S3 := (kpc_X2_climb S2 oH (tK_some k3) c1).1
    rw [c2] at S3
    refine wp_and c1 ?_
    rw [c2]
    have f3 : cfr (rfP g o) s s3 := f2.trans (c3.mono (fun x z => by unfold rfP; exact Or.inl z))
    have k3' : cK s3 (g + 23 + 3) = 20 := by rw [c3.1]; exact k3
    have L3' : cL s3 (g + 23 + 3) = 32 := by rw [c3.L]; exact L3
    unfold KO_X0_refresh_43 KF_X0_refresh_43
    obtain ⟨t1, row, t2, t3, t4⟩ := top_ok (N := N) (g := g) (H := H) (T := T) (s := s3) (h := g + 3) (d := g + 23 + 3) (at_ := 0) (m := 16) hN S3.hL c4 (by omega) (by omega) (by omega) (by omega)
    have S4 := (kpc_X2_top S3 oH (tK_some k3') t1).1
    refine wp_and t1 ?_
    rw [t2] at S4 ⊢
    unfold KO_X0_refresh_53 KF_X0_refresh_53
    have nH : ∀ x, g + 23 ≤ x → ¬ isH (g + 3) x := fun x hx => by unfold isH; omega
    have rt : ∀ i, i < 32 → row i = sb (bg (acR k) i) := fun i hi => by
      have e := S4.sb (r := g + 23 + 3) (i := i) (x := bg (acR k) i) k3' (rootP_B _ i) (by
        rw [cA_same]
        have t3' := t3 i hi
        rw [Nat.zero_add, if_neg (by decide)] at t3'
        unfold acR
        rw [t3', c5 i hi, rootP_bg _ hi, acL_len, if_neg (by decide)]
        exact topL_congr _ _ _ (fun p j hp hj => q3 p j (by omega) hj) i hi)
      rw [cA_same] at e
      exact e
    have A : ∀ x, (x = g + 24 ∨ x = g + 25 ∨ x = o + 1 ∨ x = o + 2) → cA (csI (csArow s3 (g + 23 + 3) row) 5 (g + 23) (nI 0)) x = cA s1 x := fun x hx => by
      rw [cA_I, cA_other _ _ (by omega), c3.A x (nH x (by omega)), q1.A x (by
        rintro (z | z)
        · exact nH x (by omega) z
        · omega)]
    refine end_ _ k ?_ ?_ ?_ ok (fun i _ => rfl) (cI_same _ _ _ _) ?_
    · exact (f3.trans ((cfr_A _ _ _).mono (fun x z => by unfold rfP; omega))).trans ((cfr_I _ _ _ _).mono (fun x z => by unfold rfP; omega))
    · refine ⟨fun a ha => ?_, ?_⟩
      · rw [A (o + 1) (by omega), A (o + 2) (by omega), m1.1.A _ (by omega), m1.1.A _ (by omega)]
        exact hb.1 a ha
      · rw [cI_other _ _ (Or.inl (by decide))]
        show cI s3 2 o = _
        rw [c3.I 2 o (nH o (by omega)), q1.I 2 o (by
          rintro (z | z)
          · exact nH o (by omega) z
          · omega), m1.1.I 2 o (by omega)]
        exact hb.2
    · refine ⟨fun a ha => ?_, ?_⟩
      · have A1 : cA (csI (csArow s3 (g + 23 + 3) row) 5 (g + 23) (nI 0)) (g + 23 + 1) = cA s1 (g + 23 + 1) := A (g + 24) (by omega)
        have A2 : cA (csI (csArow s3 (g + 23 + 3) row) 5 (g + 23) (nI 0)) (g + 23 + 2) = cA s1 (g + 23 + 2) := A (g + 25) (by omega)
        rw [A1, A2]
        exact m2.1 a ha
      · rw [cI_other _ _ (Or.inl (by decide))]
        show cI s3 2 (g + 23) = _
        rw [c3.I 2 (g + 23) (nH _ (by omega)), q1.I 2 (g + 23) (by
          rintro (z | z)
          · exact nH _ (by omega) z
          · omega)]
        exact m2.2
    · intro i hi
      show cA (csArow s3 (g + 23 + 3) row) (g + 23 + 3) i = _
      rw [cA_same]
      exact rt i hi
  rcases l2 with l2 | ⟨l2, l3⟩
  · rw [l2]
    exact wp_neg (by decide) anew
  · rw [l2]
    refine wp_pos rfl ?_
    obtain ⟨i1, i2⟩ := isLike_c (N := N) (g := g) (H := H) (T := T) (by omega) hb l1 ok ok'
    refine wp_and i1 ?_
    rcases i2 with ⟨i2, ag⟩ | i2
    · rw [i2]
      refine wp_neg (by decide) (end_ s k' cfr.refl hb l1 ok' ag l2 (fun i hi => ?_))
      rw [acR_cg ag]
      exact l3 i hi
    · rw [i2]
      exact wp_pos rfl anew
/-- the accounts are taken over from a SNAPSHOT -/
theorem load_c (hN : 100 ≤ N) (hm : cB s r m) (hl : m.length = 115) (h5 : cL s r = 128) (hr : r ≠ o ∧ r ≠ o + 1 ∧ r ≠ o + 2) : wp (p_X0_load N g H T s o (some r)) (k_X0_load N g H T s o (some r)) (fun z => cfr (fun x => x = o ∨ x = o + 1 ∨ x = o + 2) s z ∧ cI z 5 o = nI 1 ∧ bkC z o (snB m)) := by
  show wp (KO_X0_load_0 N g H T o (some r) s) (KF_X0_load_0 N g H T o (some r) s) _
  unfold KO_X0_load_0 KF_X0_load_0 KO_X0_load_10 KF_X0_load_10
  refine wp_seq (Q := fun z : Nat × cS => cfr (fun x => x = o ∨ x = o + 1 ∨ x = o + 2) s z.2 ∧ cI z.2 5 o = nI 1 ∧ bkC z.2 o (snB m)) ?_ (fun z hz => wp_fin trivial hz)
  refine wp_loop (K := 16) (fun j (x : cS) => cfr (fun x => x = o ∨ x = o + 1 ∨ x = o + 2) s x ∧ cI x 5 o = nI 1 ∧ (∀ a, a < j → cA x (o + 1) a = iI (snB m a) ∧ cA x (o + 2) a = iI (snB m (16 + a))) ∧ cI x 2 o = nI (finB (fun i => if i < 32 + j then snB m i else 0))) (fun n j x => KOL_X0_load_15 N g H T n o (some r) (nI j) (nI (35 + 5 * j)) x) (fun n j x => KL_X0_load_15 N g H T n o (some r) (nI j) (nI (35 + 5 * j)) x) (fun n j x hj hI ih => ?_) 0 N _ (by omega) (by omega) ⟨((cfr_I _ _ _ _).mono (fun x z => by omega)).trans ((cfr_I _ _ _ _).mono (fun x z => by omega)), by rw [cI_other _ _ (Or.inl (by decide)), cI_same], fun a ha => absurd ha (by omega), by
    rw [cI_same]
    have e : finB (fun i => if i < 32 + 0 then snB m i else 0) = 0 := by
      refine (sm_eq (f := fun _ => 0) (fun a _ => ?_)).trans sm_zero
      show (if (if 32 + a < 32 + 0 then snB m (32 + a) else 0) = 0 then 0 else 2 ^ a) = 0
      rw [if_neg (show ¬ 32 + a < 32 + 0 by omega), if_pos rfl]
    rw [e]⟩
  obtain ⟨i1, i2, i3, i4⟩ := hI
  unfold KOL_X0_load_15 KL_X0_load_15 KOB_X0_load_15 KB_X0_load_15
  by_cases c : j = 16
  · subst c
    refine wp_pos (by rw [n_le' (by omega) (by omega)]; omega) (wp_fin trivial ⟨i1, i2, i3, ?_⟩)
    show cI x 2 o = _
    rw [i4]
    have e : finB (snB m) = finB (fun i => if i < 32 + 16 then snB m i else 0) := sm_eq (fun a ha => by
      show (if snB m (32 + a) = 0 then 0 else 2 ^ a) = if (if 32 + a < 32 + 16 then snB m (32 + a) else 0) = 0 then 0 else 2 ^ a
      rw [if_pos (show 32 + a < 32 + 16 by omega)])
    rw [e]
  have hx : cB x r m := hm.f i1 (by omega)
  have Lx : cL x r = 128 := by rw [i1.L]; exact h5
  obtain ⟨t1, t2⟩ := twoBytes_ok (N := N) (g := g) (H := H) (T := T) (a := 35 + 5 * j) hx (by omega)
  have t2' : k_X11_twoBytes N g H T x (some r) (nI (35 + 5 * j)) = nI (tw m (35 + 5 * j)) := t2
  rw [zsome r, Lx, n_sub (by omega), t2', n_clamp (by omega), n_add]
  have y1 : cB (csA x (o + 1) j (nI (tw m (35 + 5 * j)))) r m := hx.f (P := fun b => b = o + 1) (cfr_A _ _ _) (by omega)
  obtain ⟨t3, t4⟩ := twoBytes_ok (N := N) (g := g) (H := H) (T := T) (a := 35 + 5 * j + 2) y1 (by omega)
  have t4' : k_X11_twoBytes N g H T (csA x (o + 1) j (nI (tw m (35 + 5 * j)))) (some r) (nI (35 + 5 * j + 2)) = nI (tw m (35 + 5 * j + 2)) := t4
  rw [t4']
  refine wp_neg (by rw [n_le' (by omega) (by omega)]; omega) (wp_and someN (wp_neg (by rw [n_lt' (by omega) (by omega)]; omega) (wp_and t1 (wp_and ((n_in (by omega)).2 (by omega)) (wp_and t3 (wp_and ((n_in (by omega)).2 (by omega)) ?_))))))
  unfold KO_X0_load_53 KF_X0_load_53
  have y2 : cB (csA (csA x (o + 1) j (nI (tw m (35 + 5 * j)))) (o + 2) j (nI (tw m (35 + 5 * j + 2)))) r m := y1.f (P := fun b => b = o + 2) (cfr_A _ _ _) (by omega)
  have by4 := hx.2.2.2 (35 + 5 * j + 4)
  rw [zsome r, n_add, y2.at_ (a := 35 + 5 * j + 4) (by omega)]
  have ny : cI (csA (csA x (o + 1) j (nI (tw m (35 + 5 * j)))) (o + 2) j (nI (tw m (35 + 5 * j + 2)))) 2 o = nI (finB (fun i => if i < 32 + j then snB m i else 0)) := i4
  have s0 : snB m j = (tw m (35 + 5 * j) : Int) := by unfold snB; rw [if_pos (by omega)]
  have s1 : snB m (16 + j) = (tw m (35 + 5 * j + 2) : Int) := by
    unfold snB
    rw [if_neg (by omega), if_pos (by omega), show 16 + j - 16 = j by omega]
  have s2 : snB m (32 + j) = if bg m (35 + 5 * j + 4) = 1 then 1 else 0 := by
    unfold snB
    rw [if_neg (by omega), if_neg (by omega), if_pos (by omega), show 32 + j - 32 = j by omega]
  have nx : ∀ v : Int32, v = nI (finB (fun i => if i < 32 + (j + 1) then snB m i else 0)) → wp (KOL_X0_load_15 N g H T n o (some r) (nI j + nI 1) (nI (35 + 5 * j) + nI 5) (csI (csA (csA x (o + 1) j (nI (tw m (35 + 5 * j)))) (o + 2) j (nI (tw m (35 + 5 * j + 2)))) 2 o v)) (KL_X0_load_15 N g H T n o (some r) (nI j + nI 1) (nI (35 + 5 * j) + nI 5) (csI (csA (csA x (o + 1) j (nI (tw m (35 + 5 * j)))) (o + 2) j (nI (tw m (35 + 5 * j + 2)))) 2 o v)) (fun z : Nat × cS => cfr (fun x => x = o ∨ x = o + 1 ∨ x = o + 2) s z.2 ∧ cI z.2 5 o = nI 1 ∧ bkC z.2 o (snB m)) := fun v hv => by
    rw [n_add, n_add, show 35 + 5 * j + 5 = 35 + 5 * (j + 1) by omega]
    refine ih _ ⟨((i1.trans ((cfr_A _ _ _).mono (fun x z => by omega))).trans ((cfr_A _ _ _).mono (fun x z => by omega))).trans ((cfr_I _ _ _ _).mono (fun x z => by omega)), ?_, fun a ha => ?_, ?_⟩ (by omega)
    · rw [cI_other _ _ (Or.inl (by decide))]
      exact i2
    · rw [cA_I, cA_I, cA_ne _ _ _ (by omega), cA_at, cA_at, cA_ne _ _ _ (by omega)]
      by_cases d : a = j
      · rw [if_pos d, if_pos d, d, s0, s1, iI_n, iI_n]
        exact ⟨rfl, rfl⟩
      · rw [if_neg d, if_neg d]
        exact i3 a (by omega)
    · rw [cI_same]
      exact hv
  refine wp_and ⟨someN, ?_⟩ ?_
  · show vp_in (nI (35 + 5 * j + 4)) (cL x r)
    rw [Lx]
    exact ((n_in (by omega)).2 (by omega))
  rw [ny]
  by_cases d : bg m (35 + 5 * j + 4) = 1
  · refine wp_pos ((sb_eq by4 (by decide)).2 ⟨by omega, d⟩) ?_
    unfold KO_X0_load_74 KF_X0_load_74
    refine nx _ ?_
    rw [finB_or (by omega)]
    have e : finB (bU (fun i => if i < 32 + j then snB m i else 0) (32 + j) 1) = finB (fun i => if i < 32 + (j + 1) then snB m i else 0) := sm_eq (fun a ha => by
      show (if bU (fun i => if i < 32 + j then snB m i else 0) (32 + j) 1 (32 + a) = 0 then 0 else 2 ^ a) = if (if 32 + a < 32 + (j + 1) then snB m (32 + a) else 0) = 0 then 0 else 2 ^ a
      by_cases f : a = j
      · rw [f, bU_s, if_pos (show 32 + j < 32 + (j + 1) by omega), s2, if_pos d]
      · rw [bU_o _ _ (by omega)]
        by_cases f2 : a < j
        · rw [if_pos (show 32 + a < 32 + j by omega), if_pos (show 32 + a < 32 + (j + 1) by omega)]
        · rw [if_neg (show ¬ 32 + a < 32 + j by omega), if_neg (show ¬ 32 + a < 32 + (j + 1) by omega)])
    rw [e]
  · refine wp_neg (fun z => d ((sb_eq by4 (by decide)).1 z).2) ?_
    unfold KO_X0_load_74 KF_X0_load_74
    refine nx _ ?_
    have z0 : nI 0 = (0 : Int32) := rfl
    rw [z0, Int32.or_zero]
    have e : finB (fun i => if i < 32 + j then snB m i else 0) = finB (fun i => if i < 32 + (j + 1) then snB m i else 0) := sm_eq (fun a ha => by
      show (if (if 32 + a < 32 + j then snB m (32 + a) else 0) = 0 then 0 else 2 ^ a) = if (if 32 + a < 32 + (j + 1) then snB m (32 + a) else 0) = 0 then 0 else 2 ^ a
      by_cases f : a = j
      · rw [f, if_neg (show ¬ 32 + j < 32 + j by omega), if_pos (show 32 + j < 32 + (j + 1) by omega), s2, if_neg d]
      · by_cases f2 : a < j
        · rw [if_pos (show 32 + a < 32 + j by omega), if_pos (show 32 + a < 32 + (j + 1) by omega)]
        · rw [if_neg (show ¬ 32 + a < 32 + j by omega), if_neg (show ¬ 32 + a < 32 + (j + 1) by omega)])
    rw [e]
end
end
