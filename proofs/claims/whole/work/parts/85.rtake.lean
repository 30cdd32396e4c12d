section
/-! THE REFERENCE TAKES A SNAPSHOT -/
/-- the book that a snapshot tells -/
def snB (m : List Nat) : Bk := fun i => if i < 16 then (tw m (35 + 5 * i) : Int) else if i < 32 then (tw m (35 + 5 * (i - 16) + 2) : Int) else if i < 48 then (if bg m (35 + 5 * (i - 32) + 4) = 1 then 1 else 0) else 0
theorem snB_0 {m : List Nat} {a : Nat} (h : a < 16) : snB m a = (tw m (35 + 5 * a) : Int) := by unfold snB; rw [if_pos h]
theorem snB_1 {m : List Nat} {a : Nat} (h : a < 16) : snB m (16 + a) = (tw m (35 + 5 * a + 2) : Int) := by unfold snB; rw [if_neg (by omega), if_pos (by omega), Nat.add_sub_cancel_left]
theorem snB_2 {m : List Nat} {a : Nat} (h : a < 16) : snB m (32 + a) = if bg m (35 + 5 * a + 4) = 1 then 1 else 0 := by unfold snB; rw [if_neg (by omega), if_neg (by omega), if_pos (by omega), Nat.add_sub_cancel_left]
section
variable {N n F H T : Nat} {S S1 : rS} {w : Wd}
theorem rR0.fr80 (h : rR0 F H T S w) (f : rfr [80, 81, 82, 83, 84] S S1) : rR0 F H T S1 w := by
  obtain ⟨c1, c2, c3, c4, c5, c6, c7, c8, c9, c10, c11, c12, c13, c14⟩ := h
  exact ⟨c1.fr f (by decide), c2.fr f (by decide), c3.fr f (by decide), c4.fr f (by decide), c5.fr f (by decide), c6.fr f (by decide) (by decide) (by decide), c7.fr f (by decide) (by decide) (by decide) (by decide), c8.fr f (by decide) (by decide) (by decide) (by decide) (by decide), c9.fr f (by decide) (by decide) (by decide), c10.fr f (by decide) (by decide) (by decide), c11.fr f (by decide) (by decide) (by decide) (by decide), c12.fr f (by decide) (by decide), c13.fr f (by decide) (by decide), c14.fr f (by decide) (by decide)⟩
theorem jK.take {m : List Nat} (hj : jK T H S (wN w) (wY w)) (hH : H ≤ 13) (hn : n < H) (hl : m.length = 115) (hB : isB m) (h2 : 2 ≤ tw m 1) (h41 : tw m 1 ≤ 41) (hk : bkOK (snB m)) (r80 : S1.2.1 80 = upd (S.2.1 80) n (nI (tw m 1))) (r81 : ∀ q, lby (S1.2.2 81) q = if 32 * n ≤ q ∧ q < 32 * n + 32 then nI (bg m (3 + (q - 32 * n))) else lby (S.2.2 81) q) (r82 : ∀ q, S1.2.1 82 q = if 16 * n ≤ q ∧ q < 16 * n + 16 then iI (snB m (q - 16 * n)) else S.2.1 82 q) (r83 : ∀ q, S1.2.1 83 q = if 16 * n ≤ q ∧ q < 16 * n + 16 then iI (snB m (16 + (q - 16 * n))) else S.2.1 83 q) (r84 : ∀ q, S1.2.1 84 q = if 16 * n ≤ q ∧ q < 16 * n + 16 then iI (snB m (32 + (q - 16 * n))) else S.2.1 84 q) : jK T H S1 (wN (aLift w n (tw m 1) (sl m 3 32) (snB m))) (wY (aLift w n (tw m 1) (sl m 3 32) (snB m))) := fun x hx => by
  by_cases e : x = n
  · subst e
    refine ⟨tw m 1, tw m 1, snB m, sl m 3 32, aLift_1, by omega, Nat.le_refl _, h41, by rw [r80, upd_same], hk, fun a ha => ?_, fun h a b => absurd b (by omega), fun i hi => ?_, aLift_9, sl_len _ _ _, isB_sl hB _ _, fun z => by omega, fun _ _ k hk => ?_, fun _ z => absurd rfl z⟩
    · rw [r82, r83, r84, if_pos (by omega), if_pos (by omega), if_pos (by omega), Nat.add_sub_cancel_left]
      exact ⟨rfl, rfl, rfl⟩
    · rw [aLift_M hi, Nat.sub_self]
      rfl
    · rw [r81, if_pos (by omega), sl_in hk, Nat.add_sub_cancel_left]
  · obtain ⟨hh', bh, k0, d, g1, g2, g3, g4, g5, g6, g7, g8, g9, g10, g11, g12, g13, g14, g15⟩ := hj x hx
    have e7 : wY (aLift w n (tw m 1) (sl m 3 32) (snB m)) x 7 = wY w x 7 := by
      funext i
      exact aLift_Y (by omega)
    refine ⟨hh', bh, k0, d, by rw [aLift_N (Or.inl e)]; exact g1, g2, g3, g4, by rw [r80, upd_other _ _ e]; exact g5, g6, fun a ha => ?_, ?_, fun i hi => ?_, by rw [aLift_Y (Or.inl e)]; exact g10, g11, g12, g13, fun a b k hk => ?_, ?_⟩
    · rw [r82, r83, r84, if_neg (by omega), if_neg (by omega), if_neg (by omega)]
      exact g7 a ha
    · rw [e7]; exact g8
    · rw [e7, aLift_N (Or.inl e)]; exact g9 i hi
    · rw [r81, if_neg (by omega)]
      exact g14 a b k hk
    · rw [e7]; exact g15
/-- a node takes a snapshot -/
def aTake (w : Wd) (n T : Nat) (m : List Nat) : Wd := if (aSnapN w n m).1 then aRise (aSnapN w n m).2 n T (tw m 1) (sl m 3 32) (snB m) else (aSnapN w n m).2
theorem aSnapN_t {m : List Nat} (h : (aSnapN w n m).1 = true) : (∀ x k, (k < 12 ∨ 16 < k) → k < 100 → wN (aSnapN w n m).2 x k = wN w x k) ∧ wY (aSnapN w n m).2 = wY w ∧ wP (aSnapN w n m).2 = wP w ∧ (0 ≤ wN w n 12 ∧ wN w n 12 ≤ 1000 → 0 ≤ wN (aSnapN w n m).2 n 12 ∧ wN (aSnapN w n m).2 n 12 ≤ 1000) := by
  cases hb : (aNote w n (snT m) (snAt w n)).1 with
  | false =>
    unfold aSnapN at h
    rw [hb] at h
    cases h
  | true =>
    obtain ⟨t1, t2, t3, t4, t5, t6, t7⟩ := aNote_t hb
    have un : (aSnapN w n m).2 = sN (aNote w n (snT m) (snAt w n)).2 n 16 (snAt w n) := by unfold aSnapN; rw [hb]; rfl
    rw [un]
    refine ⟨fun x k a b => ?_, t2, t3, fun hc => ?_⟩
    · rw [N_o _ _ _ _ (by omega)]
      exact t1 x k (by omega) b
    · rw [N_o _ _ _ _ (by omega)]
      exact t7 hc
theorem take_ok {s : Nat} {m : List Nat} (hN : 1000 ≤ N) (h : rRp F H T S w) (hn : n < H) (hs : s < 13) (hm : wY w n 3 s = some m) (h2 : 2 ≤ tw m 1) (h41 : tw m 1 ≤ 41) (hbk : bkOK (snB m)) (h1 : 0 ≤ wN w n 1 ∧ wN w n 1 ≤ 41) (hc : 0 ≤ wN w n 12 ∧ wN w n 12 ≤ 1000) (h16 : -1 ≤ wN w n 16 ∧ wN w n 16 ≤ 300) (hpl : ∀ q, q < (wP w n).length → bg (pg (wP w n) q) 0 < 16 ∧ bg (pg (wP w n) q) 1 < 16) : wp (o_take N S (nI n) (nI (13 * n + s))) (f_take N S (nI n) (nI (13 * n + s))) (fun S' => rRp F H T S' (aTake w n T m)) := by
  have cb := h.1.1.b
  have z1 := h.s n s hn hs
  rw [hm] at z1
  obtain ⟨a1, a2, a3, a4, a5⟩ := z1
  show wp (O_take_0 N (nI n) (nI (13 * n + s)) S) (F_take_0 N (nI n) (nI (13 * n + s)) S) _
  unfold O_take_0 F_take_0
  refine wp_call (noteSnap_ok hN h hn hs hm hc h16) (fun q => ?_)
  obtain ⟨q1', q2, q3⟩ := q
  generalize f_noteSnap N S (nI n) (nI (13 * n + s)) = y at q1' q2 q3 ⊢
  unfold O_take_6 F_take_6
  rw [q3]
  unfold aTake
  cases hb : (aSnapN w n m).1 with
  | false => exact wp_pos rfl (wp_fin trivial q2)
  | true =>
    obtain ⟨t1, t2, t3, t4⟩ := aSnapN_t hb
    have t4 := t4 hc
    rw [hb] at q3
    have fw := q1' q3
    have e57 : y.2.2.1 57 (13 * n + s) = nI (tw m 1) := by rw [fw.a 57 (by decide)]; exact a1
    have e58 : ∀ i, i < 115 → y.2.2.1 58 (115 * (13 * n + s) + i) = nI (bg m i) := fun i hi => by rw [fw.a 58 (by decide)]; exact a5 i hi
    generalize (aSnapN w n m).2 = w1 at q2 t1 t2 t3 t4 ⊢
    generalize y.2 = S0 at q2 e57 e58 ⊢
    rw [n_clamp (by omega), n_clamp (by omega), e57]
    refine wp_neg (show ¬ nI 1 = 0 by decide) (wp_and ((n_in (by omega)).2 (by omega)) (wp_and ((n_in (by omega)).2 (by omega)) ?_))
    have f1 : rfr [80] S0 (rsA S0 80 n (nI (tw m 1))) := rfr.one (by decide)
    have r80 : (rsA S0 80 n (nI (tw m 1))).2.1 80 = upd (S0.2.1 80) n (nI (tw m 1)) := A_same _ _ _ _
    generalize rsA S0 80 n (nI (tw m 1)) = S1 at f1 r80 ⊢
    refine wp_seq (Q := fun z : Nat × Int32 × Int32 × rS => z = (0, nI n, nI (13 * n + s), z.2.2.2) ∧ rfr [81] S1 z.2.2.2 ∧ ∀ q, lby (z.2.2.2.2.2 81) q = if 32 * n ≤ q ∧ q < 32 * n + 32 then nI (bg m (3 + (q - 32 * n))) else lby (S0.2.2 81) q) ?_ ?_
    · refine wp_loop (K := 4) (fun j x => rfr [81] S1 x ∧ ∀ q, lby (x.2.2 81) q = if 32 * n ≤ q ∧ q < 32 * n + 8 * j then nI (bg m (3 + (q - 32 * n))) else lby (S0.2.2 81) q) (fun r j x => OL_take_24 N r (nI n) (nI (13 * n + s)) (nI j) x) (fun r j x => L_take_24 N r (nI n) (nI (13 * n + s)) (nI j) x) (fun r j x hj hI ih => ?_) 0 N S1 (by omega) (by omega) ⟨rfr.refl, fun q => by rw [if_neg (by omega), f1.l 81 (by decide)]⟩
      unfold OL_take_24 L_take_24 OB_take_24 B_take_24
      by_cases e : j = 4
      · refine wp_pos (by rw [n_le' (by omega) (by omega)]; omega) ?_
        subst e
        exact wp_fin trivial ⟨rfl, hI⟩
      · refine wp_neg (by rw [n_le' (by omega) (by omega)]; omega) (wp_seq (Q := fun z : Nat × Int32 × Int32 × Int32 × Int64 × rS => z = (0, nI n, nI (13 * n + s), nI j, l8 (fun i => nI (bg m (3 + 8 * j + i))) 8, x)) ?_ ?_)
        · refine wp_loop (K := 8) (fun i (v : Int64) => v = l8 (fun i => nI (bg m (3 + 8 * j + i))) i) (fun r2 i v => OL_take_35 N r2 (nI n) (nI (13 * n + s)) (nI j) v (nI i) x) (fun r2 i v => L_take_35 N r2 (nI n) (nI (13 * n + s)) (nI j) v (nI i) x) (fun r2 i v hi hJ ih2 => ?_) 0 N (0 : Int64) (by omega) (by omega) rfl
          unfold OL_take_35 L_take_35 OB_take_35 B_take_35
          by_cases e8 : i = 8
          · refine wp_pos (by rw [n_le' (by omega) (by omega)]; omega) ?_
            refine wp_fin trivial ?_
            rw [hJ, e8]
          · simp only [n_mul, n_add]
            have rx : x.2.1 58 (115 * (13 * n + s) + 3 + 8 * j + i) = nI (bg m (3 + 8 * j + i)) := by
              rw [hI.1.a 58 (by decide), f1.a 58 (by decide), show 115 * (13 * n + s) + 3 + 8 * j + i = 115 * (13 * n + s) + (3 + 8 * j + i) by omega]
              exact e58 _ (by omega)
            rw [n_clamp (by omega), rx]
            refine wp_neg (by rw [n_le' (by omega) (by omega)]; omega) (wp_and ((n_in (by omega)).2 (by omega)) (ih2 _ ?_ (by omega)))
            rw [hJ]
            rfl
        · rintro z rfl
          show wp (O_take_76 N (OL_take_24 N r) (nI n) (nI (13 * n + s)) (nI j) (l8 (fun i => nI (bg m (3 + 8 * j + i))) 8) x) (F_take_76 N (L_take_24 N r) (nI n) (nI (13 * n + s)) (nI j) (l8 (fun i => nI (bg m (3 + 8 * j + i))) 8) x) _
          unfold O_take_76 F_take_76
          simp only [n_mul, n_add]
          rw [n_clamp (by omega)]
          refine wp_and ((n_in (by omega)).2 (by omega)) (ih _ ⟨hI.1.trans (rfr.oneL (by decide)), fun q => ?_⟩ (by omega))
          rw [L_same]
          by_cases c : 32 * n + 8 * j ≤ q ∧ q < 32 * n + 8 * j + 8
          · rw [if_pos (by omega), lby_eq (a := 4 * n + j) (b := q % 8) (by omega) rfl, updL_same, byt_l8 (fun i => n_255 (a4 _)) (by omega)]
            congr 2
            omega
          · have e2 : lby (vp_updL (x.2.2 81) (4 * n + j) (l8 (fun i => nI (bg m (3 + 8 * j + i))) 8)) q = lby (x.2.2 81) q := by
              unfold lby
              rw [updL_other _ _ (by omega)]
            rw [e2, hI.2 q]
            by_cases c2 : 32 * n ≤ q ∧ q < 32 * n + 8 * j
            · rw [if_pos c2, if_pos (by omega)]
            · rw [if_neg c2, if_neg (by omega)]
    rintro z ⟨y0, y1, y2⟩
    rw [y0]
    generalize z.2.2.2 = S2 at y1 y2 ⊢
    show wp (O_take_94 N (nI n) (nI (13 * n + s)) S2) (F_take_94 N (nI n) (nI (13 * n + s)) S2) _
    have f02 : rfr [80, 81] S0 S2 := (f1.mono (by decide)).trans (y1.mono (by decide))
    unfold O_take_94 F_take_94
    refine wp_seq (Q := fun z : Nat × Int32 × Int32 × rS => z = (0, nI n, nI (13 * n + s), z.2.2.2) ∧ rfr [82, 83, 84] S2 z.2.2.2 ∧ (∀ q, z.2.2.2.2.1 82 q = if 16 * n ≤ q ∧ q < 16 * n + 16 then iI (snB m (q - 16 * n)) else S0.2.1 82 q) ∧ (∀ q, z.2.2.2.2.1 83 q = if 16 * n ≤ q ∧ q < 16 * n + 16 then iI (snB m (16 + (q - 16 * n))) else S0.2.1 83 q) ∧ ∀ q, z.2.2.2.2.1 84 q = if 16 * n ≤ q ∧ q < 16 * n + 16 then iI (snB m (32 + (q - 16 * n))) else S0.2.1 84 q) ?_ ?_
    · refine wp_loop (K := 16) (fun a x => rfr [82, 83, 84] S2 x ∧ (∀ q, x.2.1 82 q = if 16 * n ≤ q ∧ q < 16 * n + a then iI (snB m (q - 16 * n)) else S0.2.1 82 q) ∧ (∀ q, x.2.1 83 q = if 16 * n ≤ q ∧ q < 16 * n + a then iI (snB m (16 + (q - 16 * n))) else S0.2.1 83 q) ∧ ∀ q, x.2.1 84 q = if 16 * n ≤ q ∧ q < 16 * n + a then iI (snB m (32 + (q - 16 * n))) else S0.2.1 84 q) (fun r a x => OL_take_96 N r (nI n) (nI (13 * n + s)) (nI a) x) (fun r a x => L_take_96 N r (nI n) (nI (13 * n + s)) (nI a) x) (fun r a x ha hI ih => ?_) 0 N S2 (by omega) (by omega) ⟨rfr.refl, fun q => by rw [if_neg (by omega), f02.a 82 (by decide)], fun q => by rw [if_neg (by omega), f02.a 83 (by decide)], fun q => by rw [if_neg (by omega), f02.a 84 (by decide)]⟩
      obtain ⟨i1, i2, i3, i4⟩ := hI
      unfold OL_take_96 L_take_96 OB_take_96 B_take_96
      by_cases e : a = 16
      · refine wp_pos (by rw [n_le' (by omega) (by omega)]; omega) ?_
        subst e
        exact wp_fin trivial ⟨rfl, i1, i2, i3, i4⟩
      · have rx : ∀ i, i < 115 → x.2.1 58 (115 * (13 * n + s) + i) = nI (bg m i) := fun i hi => by rw [i1.a 58 (by decide), f02.a 58 (by decide)]; exact e58 i hi
        have ix : 115 * (13 * n + s) + 35 + 5 * a = 115 * (13 * n + s) + (35 + 5 * a) := by omega
        simp only [n_mul, n_add]
        rw [ix, n_clamp (by omega), n_clamp (by omega), Nat.add_assoc (115 * (13 * n + s)) (35 + 5 * a) 1, rx _ (by omega), rx _ (by omega), n_two (a4 _) (a4 _)]
        refine wp_neg (by rw [n_le' (by omega) (by omega)]; omega) (wp_and ((n_in (by omega)).2 (by omega)) (wp_and ((n_in (by omega)).2 (by omega)) ?_))
        unfold O_take_145 F_take_145
        simp only [n_mul, n_add]
        have o58 : (rsA x 82 (16 * n + a) (nI (256 * bg m (35 + 5 * a) + bg m (35 + 5 * a + 1)))).2.1 58 = x.2.1 58 := A_other _ _ _ (by decide)
        rw [n_clamp (by omega), n_clamp (by omega), n_clamp (by omega), o58, Nat.add_assoc (115 * (13 * n + s)) (35 + 5 * a) 2, Nat.add_assoc (115 * (13 * n + s)) (35 + 5 * a) 3, rx _ (by omega), rx _ (by omega), n_two (a4 _) (a4 _)]
        refine wp_and ((n_in (by omega)).2 (by omega)) (wp_and ((n_in (by omega)).2 (by omega)) (wp_and ((n_in (by omega)).2 (by omega)) (wp_and ((n_in (by omega)).2 (by omega)) ?_)))
        obtain ⟨x1, ex⟩ : ∃ x1, x1 = rsA (rsA x 82 (16 * n + a) (nI (256 * bg m (35 + 5 * a) + bg m (35 + 5 * a + 1)))) 83 (16 * n + a) (nI (256 * bg m (35 + 5 * a + 2) + bg m (35 + 5 * a + 3))) := ⟨_, rfl⟩
        rw [← ex]
        have fx : rfr [82, 83] x x1 := by rw [ex]; exact (rfr.one (by decide)).trans (rfr.one (by decide))
        have x82 : x1.2.1 82 = upd (x.2.1 82) (16 * n + a) (iI (snB m a)) := by
          rw [ex, A_other _ _ _ (by decide), A_same, snB_0 (by omega), iI_n]
          rfl
        have x83 : x1.2.1 83 = upd (x.2.1 83) (16 * n + a) (iI (snB m (16 + a))) := by
          rw [ex, A_same, A_other _ _ _ (by decide), snB_1 (by omega), iI_n]
          rfl
        unfold O_take_179 F_take_179
        simp only [n_mul, n_add]
        rw [n_clamp (by omega), fx.a 58 (by decide), Nat.add_assoc (115 * (13 * n + s)) (35 + 5 * a) 4, rx _ (by omega)]
        have u4 := a4 (35 + 5 * a + 4)
        have fin : ∀ t : Nat, t ≤ 1 → (t : Int) = snB m (32 + a) → wp (O_take_207 N (OL_take_96 N r) (nI n) (nI (13 * n + s)) (nI a) (nI (16 * n + a)) (nI t) x1) (F_take_207 N (L_take_96 N r) (nI n) (nI (13 * n + s)) (nI a) (nI (16 * n + a)) (nI t) x1) (fun z : Nat × Int32 × Int32 × rS => z = (0, nI n, nI (13 * n + s), z.2.2.2) ∧ rfr [82, 83, 84] S2 z.2.2.2 ∧ (∀ q, z.2.2.2.2.1 82 q = if 16 * n ≤ q ∧ q < 16 * n + 16 then iI (snB m (q - 16 * n)) else S0.2.1 82 q) ∧ (∀ q, z.2.2.2.2.1 83 q = if 16 * n ≤ q ∧ q < 16 * n + 16 then iI (snB m (16 + (q - 16 * n))) else S0.2.1 83 q) ∧ ∀ q, z.2.2.2.2.1 84 q = if 16 * n ≤ q ∧ q < 16 * n + 16 then iI (snB m (32 + (q - 16 * n))) else S0.2.1 84 q) := by
          intro t ht1 ht
          unfold O_take_207 F_take_207
          rw [n_clamp (by omega), n_add]
          refine wp_and ⟨((n_in (by omega)).2 (by omega)), by rcases (show t = 0 ∨ t = 1 by omega) with rfl | rfl <;> rfl⟩ (ih _ ⟨(i1.trans (fx.mono (by decide))).trans (rfr.one (by decide)), fun q => ?_, fun q => ?_, fun q => ?_⟩ (by omega))
          · rw [A_other _ _ _ (by decide), x82]
            by_cases c : q = 16 * n + a
            · rw [c, upd_same, if_pos (by omega), Nat.add_sub_cancel_left]
            · rw [upd_other _ _ c, i2 q]
              by_cases c2 : 16 * n ≤ q ∧ q < 16 * n + a
              · rw [if_pos c2, if_pos (by omega)]
              · rw [if_neg c2, if_neg (by omega)]
          · rw [A_other _ _ _ (by decide), x83]
            by_cases c : q = 16 * n + a
            · rw [c, upd_same, if_pos (by omega), Nat.add_sub_cancel_left]
            · rw [upd_other _ _ c, i3 q]
              by_cases c2 : 16 * n ≤ q ∧ q < 16 * n + a
              · rw [if_pos c2, if_pos (by omega)]
              · rw [if_neg c2, if_neg (by omega)]
          · rw [A_same, fx.a 84 (by decide)]
            by_cases c : q = 16 * n + a
            · rw [c, upd_same, if_pos (by omega), Nat.add_sub_cancel_left, ← ht, iI_n]
            · rw [upd_other _ _ c, i4 q]
              by_cases c2 : 16 * n ≤ q ∧ q < 16 * n + a
              · rw [if_pos c2, if_pos (by omega)]
              · rw [if_neg c2, if_neg (by omega)]
        refine wp_and ((n_in (by omega)).2 (by omega)) (wp_ite (fun c => ?_) (fun c => ?_)) <;> rw [n_eq' (by omega) (by omega)] at c
        · exact fin 1 (by omega) (by rw [snB_2 (by omega), if_pos c]; rfl)
        · exact fin 0 (by omega) (by rw [snB_2 (by omega), if_neg c]; rfl)
    rintro z ⟨x0, x1, x2, x3, x4⟩
    rw [x0]
    generalize z.2.2.2 = S3 at x1 x2 x3 x4 ⊢
    show wp (O_take_214 N (nI n) (nI (13 * n + s)) S3) (F_take_214 N (nI n) (nI (13 * n + s)) S3) _
    have f03 : rfr [80, 81, 82, 83, 84] S0 S3 := (f02.mono (by decide)).trans (x1.mono (by decide))
    unfold O_take_214 F_take_214
    rw [n_clamp (by omega), f03.a 57 (by decide), e57]
    refine wp_and ((n_in (by omega)).2 (by omega)) (wp_call (rise_ok hN (q2.r0.fr80 f03) hn (by rw [t1 n 1 (by omega) (by omega)]; exact h1) h41 (jK.take q2.k cb.2.1 hn a3 a4 h2 h41 hbk ?_ ?_ x2 x3 x4) t4 (by rw [t3]; exact hpl)) (fun q => wp_ret q))
    · rw [x1.a 80 (by decide), y1.a 80 (by decide), r80]
    · intro q
      rw [x1.l 81 (by decide)]
      exact y2 q
end
end
