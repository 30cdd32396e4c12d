section
/-! SINGLE CHANGES OF THE WORLD; the reference's notes -/
theorem rna_inj : ∀ k, k < 18 → ∀ k', k' < 18 → rna k = rna k' → k = k' ∨ (9 ≤ k ∧ k ≤ 11 ∧ 9 ≤ k' ∧ k' ≤ 11) := by decide
section
variable {N n F H T : Nat} {S S1 : rS} {w : Wd}
theorem jN.set {k : Nat} {v : Int} (h : jN H S (wN w)) (hk : k < 18) : jN H (rsA S (rna k) (rni k n) (iI v)) (wN (sN w n k v)) := fun m j hm hj => by
  have old := h m j hm hj
  by_cases e : rna j = rna k
  · rw [e, A_same]
    rw [e] at old
    by_cases e2 : m = n ∧ j = k
    · rw [e2.1, e2.2, upd_same, N_s]
    · have ne : rni j m ≠ rni k n := by
        rcases rna_inj j hj k hk e with z | z
        · unfold rni
          rw [z]
          split <;> omega
        · unfold rni
          rw [if_pos ⟨z.1, z.2.1⟩, if_pos ⟨z.2.2.1, z.2.2.2⟩]
          omega
      rw [upd_other _ _ ne, N_o _ _ _ _ (by omega)]
      exact old
  · rw [A_other _ _ _ e, N_o _ _ _ _ (Or.inr (fun z => e (by rw [z])))]
    exact old
theorem rna_L {k : Nat} (hk : k < 18) : rna k ∈ [43, 44, 45, 46, 47, 48, 49, 50, 51, 52, 65, 75, 76, 77, 78, 79] := by
  rcases (show k = 0 ∨ k = 1 ∨ k = 2 ∨ k = 3 ∨ k = 4 ∨ k = 5 ∨ k = 6 ∨ k = 7 ∨ k = 8 ∨ k = 9 ∨ k = 10 ∨ k = 11 ∨ k = 12 ∨ k = 13 ∨ k = 14 ∨ k = 15 ∨ k = 16 ∨ k = 17 by omega) with rfl | rfl | rfl | rfl | rfl | rfl | rfl | rfl | rfl | rfl | rfl | rfl | rfl | rfl | rfl | rfl | rfl | rfl <;> decide
/-- a number of a node, other than its height and its count of own messages -/
theorem rRp.setN {k : Nat} {v : Int} (h : rRp F H T S w) (hk : k < 18) (h1 : k ≠ 1) (h17 : k ≠ 17) : rRp F H T (rsA S (rna k) (rni k n) (iI v)) (sN w n k v) := by
  have f : rfr [43, 44, 45, 46, 47, 48, 49, 50, 51, 52, 65, 75, 76, 77, 78, 79] S (rsA S (rna k) (rni k n) (iI v)) := rfr.one (rna_L hk)
  exact ⟨h.co.fr f (by decide), h.sk.fr f (by decide), h.n.set hk, (h.wh.fr f (by decide)).cg (fun m j hm a b => N_o _ _ _ _ (by omega)), h.x.fr f (by decide), h.l.fr f (by decide) (by decide) (by decide), h.hd.fr f (by decide) (by decide) (by decide) (by decide), h.v.fr f (by decide) (by decide) (by decide) (by decide) (by decide), h.d.fr f (by decide) (by decide) (by decide), h.c.fr f (by decide) (by decide) (by decide), (h.g.fr f (by decide) (by decide) (by decide) (by decide)).cg (fun m hm => N_o _ _ _ _ (by omega)) (fun _ _ _ => rfl), h.p.fr f (by decide) (by decide), h.e.fr f (by decide) (by decide), h.s.fr f (by decide) (by decide), (h.k.fr f (by decide)).cg (fun m hm => N_o _ _ _ _ (by omega)) (fun m j hm a b => N_o _ _ _ _ (by omega)) (fun _ _ _ => rfl) (fun _ _ => rfl)⟩
theorem rRp.sky {k : Sk} (h : rRp F H T S w) (f : rfr skL S S1) (hs : rSk S1 k) : rRp F H T S1 (sK w k) := ⟨h.co.fr f (by decide), hs, h.n.fr f (by decide), h.wh.fr f (by decide), h.x.fr f (by decide), h.l.fr f (by decide) (by decide) (by decide), h.hd.fr f (by decide) (by decide) (by decide) (by decide), h.v.fr f (by decide) (by decide) (by decide) (by decide) (by decide), h.d.fr f (by decide) (by decide) (by decide), h.c.fr f (by decide) (by decide) (by decide), h.g.fr f (by decide) (by decide) (by decide) (by decide), h.p.fr f (by decide) (by decide), h.e.fr f (by decide) (by decide), h.s.fr f (by decide) (by decide), h.k.fr f (by decide)⟩
theorem rRp.num (h : rRp F H T S w) (hn : n < H) (k : Nat) (hk : k < 18) (hk2 : k < 9 ∨ 11 < k) : S.2.1 (rna k) n = iI (wN w n k) := h.n.at_ hn k hk hk2
/-- a note of the height: where it goes, what counts it -/
def aOwn (w : Wd) (n : Nat) (t : List Nat) : Bool × Wd := if (aNote w n t (80 + 2 * (wN w n 15).toNat)).1 then (true, sN (aNote w n t (80 + 2 * (wN w n 15).toNat)).2 n 15 (wN w n 15 + 1)) else (false, (aNote w n t (80 + 2 * (wN w n 15).toNat)).2)
theorem aNote_15 (w : Wd) (n : Nat) (t : List Nat) (first m : Nat) : wN (aNote w n t first).2 m 15 = wN w m 15 := by
  unfold aNote
  cases nTrn w n with
  | true =>
    show wN (aFall (aWr w n t first) n) m 15 = _
    rw [aFall_N _ _ (by omega), aWr_N _ _ _ _ (by omega)]
  | false =>
    show wN (sN (aWr w n t first) n 13 _) m 15 = _
    rw [N_o _ _ _ _ (by omega), aWr_N _ _ _ _ (by omega)]
def coL : List Nat := [14, 43, 52, 53, 55, 57, 60, 71, 73, 74, 75, 76, 77, 78]
theorem closeOwn_ok {t : List Nat} (hN : 1000 ≤ N) (h : rRp F H T S w) (hn : n < H) (ht : tB S t) (h8 : 8 ≤ t.length) (hc : 0 ≤ wN w n 12 ∧ wN w n 12 ≤ 1000) (h15 : 0 ≤ wN w n 15 ∧ wN w n 15 ≤ 100) : wp (o_closeOwn N S (nI n)) (f_closeOwn N S (nI n)) (fun z => nfr coL S z ∧ rRp F H T z.2 (aOwn w n t).2 ∧ z.1 = nI (if (aOwn w n t).1 then 1 else 0)) := by
  have cb := h.1.1.b
  have e78 : S.2.1 78 n = nI (wN w n 15).toNat := by
    have := h.num hn 15 (by decide) (by decide)
    rw [← Int.toNat_of_nonneg h15.1, iI_n] at this
    exact this
  show wp (O_closeOwn_0 N (nI n) S) (F_closeOwn_0 N (nI n) S) _
  unfold O_closeOwn_0 F_closeOwn_0
  rw [n_clamp (by omega), e78, n_mul, n_add]
  refine wp_and ((n_in (by omega)).2 (by omega)) (wp_call (closeNote_ok hN h hn ht h8 (by omega) hc) (fun q => ?_))
  obtain ⟨⟨q1, q1'⟩, q2, q3⟩ := q
  generalize f_closeNote N S (nI n) (nI (80 + 2 * (wN w n 15).toNat)) = y at q1 q1' q2 q3 ⊢
  have e15 := aNote_15 w n t (80 + 2 * (wN w n 15).toNat) n
  have y78 : y.2.2.1 78 n = nI (wN w n 15).toNat := by rw [q1.a 78 (by decide)]; exact e78
  unfold O_closeOwn_16 F_closeOwn_16 aOwn
  rw [q3, n_clamp (by omega), y78]
  cases hb : (aNote w n t (80 + 2 * (wN w n 15).toNat)).1 with
  | true =>
    refine wp_neg (show ¬ nI 1 = 0 by decide) (wp_and ((n_in (by omega)).2 (by omega)) ?_)
    unfold O_closeOwn_43 F_closeOwn_43
    rw [n_clamp (by omega), n_add]
    rw [hb] at q3
    refine wp_fin ⟨((n_in (by omega)).2 (by omega)), rfl⟩ ⟨⟨(q1.mono (by decide)).trans (rfr.one (by decide)), fun _ => (q1' q3).trans (rfr.one (by decide))⟩, ?_, rfl⟩
    have := q2.setN (n := n) (k := 15) (v := wN w n 15 + 1) (by decide) (by decide) (by decide)
    have e : iI (wN w n 15 + 1) = nI ((wN w n 15).toNat + 1) := by
      rw [← iI_n]
      congr 1
      omega
    rw [e] at this
    exact this
  | false =>
    refine wp_pos rfl (wp_and ((n_in (by omega)).2 (by omega)) ?_)
    unfold O_closeOwn_43 F_closeOwn_43
    rw [n_clamp (by omega)]
    refine wp_fin ⟨((n_in (by omega)).2 (by omega)), rfl⟩ ⟨⟨(q1.mono (by decide)).trans (rfr.one (by decide)), fun z => absurd z (show ¬ nI 0 = nI 1 by decide)⟩, ?_, rfl⟩
    have es : rsA y.2 78 n (nI (wN w n 15).toNat) = y.2 := by
      rw [rsA_W]
      have : upd (y.2.2.1 78) n (nI (wN w n 15).toNat) = y.2.2.1 78 := by
        funext x
        by_cases e : x = n
        · rw [e, upd_same, y78]
        · rw [upd_other _ _ e]
      rw [this]
      exact rsW_self _ _
    show rRp F H T (rsA y.2 78 n (nI (wN w n 15).toNat)) _
    rw [es]
    exact q2
/-- the text of a note of the height -/
def ownT (w : Wd) (n k : Nat) (x : List Nat) : List Nat := ntH k (wN w n 1).toNat (wN w n 15).toNat ++ x
theorem sf71 (f : rfr [71, 72] S S1) : sfr S S1 := f.sf (by decide) (by decide) (by decide) (by decide)
theorem openOwn_ok {k : Nat} (hk : k < 256) (hN : 100 ≤ N) (h : rRp F H T S w) (hn : n < H) (h1 : 0 ≤ wN w n 1 ∧ wN w n 1 ≤ 41) (h15 : 0 ≤ wN w n 15 ∧ wN w n 15 ≤ 100) : wp (o_openOwn N S (nI n) (nI k)) (f_openOwn N S (nI n) (nI k)) (fun S' => rfr [71, 72] S S' ∧ tB S' (ownT w n k [])) := by
  have cb := h.1.1.b
  have e44 : S.2.1 44 n = nI (wN w n 1).toNat := by
    have := h.num hn 1 (by decide) (by decide)
    rw [← Int.toNat_of_nonneg h1.1, iI_n] at this
    exact this
  have e78 : S.2.1 78 n = nI (wN w n 15).toNat := by
    have := h.num hn 15 (by decide) (by decide)
    rw [← Int.toNat_of_nonneg h15.1, iI_n] at this
    exact this
  show wp (O_openOwn_0 N (nI n) (nI k) S) (F_openOwn_0 N (nI n) (nI k) S) _
  unfold O_openOwn_0 F_openOwn_0
  rw [n_clamp (by omega), e44, e78]
  refine wp_and ((n_in (by omega)).2 (by omega)) (wp_and ((n_in (by omega)).2 (by omega)) (wp_call (openNote_ok hk (by omega) (by omega) hN) (fun q => wp_ret ⟨q.1, ?_⟩)))
  unfold ownT
  rw [List.append_nil]
  exact q.2
def noL : List Nat := [14, 43, 52, 53, 55, 57, 60, 71, 72, 73, 74, 75, 76, 77, 78]
theorem noteRound_ok {r : Nat} (hr : r < 256) (hN : 1000 ≤ N) (h : rRp F H T S w) (hn : n < H) (h1 : 0 ≤ wN w n 1 ∧ wN w n 1 ≤ 41) (hc : 0 ≤ wN w n 12 ∧ wN w n 12 ≤ 1000) (h15 : 0 ≤ wN w n 15 ∧ wN w n 15 ≤ 100) : wp (o_noteRound N S (nI n) (nI r)) (f_noteRound N S (nI n) (nI r)) (fun z => nfr noL S z ∧ rRp F H T z.2 (aOwn w n (ownT w n 2 [r])).2 ∧ z.1 = nI (if (aOwn w n (ownT w n 2 [r])).1 then 1 else 0)) := by
  show wp (O_noteRound_0 N (nI n) (nI r) S) (F_noteRound_0 N (nI n) (nI r) S) _
  unfold O_noteRound_0 F_noteRound_0
  refine wp_call (openOwn_ok (by omega) (by omega) h hn h1 h15) (fun q1 => ?_)
  generalize f_openOwn N S (nI n) (nI 2) = S1 at q1 ⊢
  unfold O_noteRound_6 F_noteRound_6
  refine wp_call (noteN_ok hr q1.2 (by simp [ownT, ntH])) (fun q2 => ?_)
  generalize f_noteByte N S1 (nI r) = S2 at q2 ⊢
  have f2 := q1.1.trans q2.1
  have tb : tB S2 (ownT w n 2 [r]) := by
    have := q2.2
    unfold ownT at this ⊢
    rw [List.append_nil] at this
    exact this
  unfold O_noteRound_11 F_noteRound_11
  refine wp_call (closeOwn_ok hN (h.sf (sf71 f2)) hn tb (by simp [ownT, ntH]) hc h15) (fun q3 => ?_)
  obtain ⟨q4, q5, q6⟩ := q3
  generalize f_closeOwn N S2 (nI n) = y at q4 q5 q6 ⊢
  unfold O_noteRound_16 F_noteRound_16
  rw [q6]
  refine wp_fin ?_ ⟨⟨(f2.mono (by decide)).trans (q4.1.mono (by decide)), fun z => (f2.mono (by decide)).trans ((q4.2 (q6.trans z)).mono (by decide))⟩, q5, rfl⟩
  split <;> rfl
theorem noteSent_ok {r : Nat} {m : List Nat} (hr : r < 256) (hN : 1000 ≤ N) (h : rRp F H T S w) (hn : n < H) (hm : mB S m) (hl : m.length ≤ 900) (h1 : 0 ≤ wN w n 1 ∧ wN w n 1 ≤ 41) (hc : 0 ≤ wN w n 12 ∧ wN w n 12 ≤ 1000) (h15 : 0 ≤ wN w n 15 ∧ wN w n 15 ≤ 100) : wp (o_noteSent N S (nI n) (nI r)) (f_noteSent N S (nI n) (nI r)) (fun z => nfr noL S z ∧ rRp F H T z.2 (aOwn w n (ownT w n 3 (r :: m))).2 ∧ z.1 = nI (if (aOwn w n (ownT w n 3 (r :: m))).1 then 1 else 0)) := by
  show wp (O_noteSent_0 N (nI n) (nI r) S) (F_noteSent_0 N (nI n) (nI r) S) _
  unfold O_noteSent_0 F_noteSent_0
  refine wp_call (openOwn_ok (by omega) (by omega) h hn h1 h15) (fun q1 => ?_)
  generalize f_openOwn N S (nI n) (nI 3) = S1 at q1 ⊢
  unfold O_noteSent_6 F_noteSent_6
  refine wp_call (noteN_ok hr q1.2 (by simp [ownT, ntH])) (fun q2 => ?_)
  generalize f_noteByte N S1 (nI r) = S2 at q2 ⊢
  have f2 := q1.1.trans q2.1
  have tb : tB S2 (ownT w n 3 [r]) := by
    have := q2.2
    unfold ownT at this ⊢
    rw [List.append_nil] at this
    exact this
  unfold O_noteSent_11 F_noteSent_11
  refine wp_seq (Q := fun z : Nat × Int32 × rS => z = (0, nI n, z.2.2) ∧ rfr [71, 72] S z.2.2 ∧ tB z.2.2 (ownT w n 3 (r :: m))) ?_ ?_
  · refine wp_loop (K := m.length) (fun j x => rfr [71, 72] S x ∧ tB x (ownT w n 3 (r :: sl m 0 j))) (fun q j x => OL_noteSent_13 N q (nI n) (nI j) x) (fun q j x => L_noteSent_13 N q (nI n) (nI j) x) (fun q j x hj hI ih => ?_) 0 N S2 (by omega) (by omega) ⟨f2, tb⟩
    have hmx := hm.fr hI.1 (by decide) (by decide)
    unfold OL_noteSent_13 L_noteSent_13 OB_noteSent_13 B_noteSent_13
    rw [hmx.1]
    by_cases e : j = m.length
    · refine wp_pos (by rw [n_le' (by omega) (by omega)]; omega) (wp_fin trivial ⟨rfl, hI.1, ?_⟩)
      have es : sl m 0 j = m := by
        rw [e]
        unfold sl
        rw [show (fun k => bg m (0 + k)) = bg m by funext k; rw [Nat.zero_add]]
        exact mkB_self m
      have := hI.2
      rw [es] at this
      exact this
    · rw [hmx.at_ (i := j) (by omega)]
      refine wp_neg (by rw [n_le' (by omega) (by omega)]; omega) (wp_and ((n_in (by omega)).2 (by omega)) (wp_call (noteN_ok (hm.2.2.2 j) hI.2 (by simp [ownT, ntH, sl_len]; omega)) (fun q3 => ?_)))
      unfold O_noteSent_31 F_noteSent_31
      rw [n_add]
      refine ih _ ⟨hI.1.trans q3.1, ?_⟩ (by omega)
      have q4 := q3.2
      have es : sl m 0 j ++ [bg m j] = sl m 0 (j + 1) := by
        unfold sl mkB
        rw [List.range_succ, List.map_append]
        simp
      have eo : ownT w n 3 (r :: sl m 0 j) ++ [bg m j] = ownT w n 3 (r :: sl m 0 (j + 1)) := by
        rw [← es]
        unfold ownT
        rw [List.append_assoc]
        rfl
      rw [eo] at q4
      exact q4
  · rintro z ⟨z0, z1, z2⟩
    rw [z0]
    generalize z.2.2 = S3 at z1 z2 ⊢
    show wp (O_noteSent_37 N (nI n) S3) (F_noteSent_37 N (nI n) S3) _
    unfold O_noteSent_37 F_noteSent_37
    refine wp_call (closeOwn_ok hN (h.sf (sf71 z1)) hn z2 (by simp [ownT, ntH]) hc h15) (fun q3 => ?_)
    obtain ⟨q4, q5, q6⟩ := q3
    generalize f_closeOwn N S3 (nI n) = y at q4 q5 q6 ⊢
    unfold O_noteSent_42 F_noteSent_42
    rw [q6]
    refine wp_fin ?_ ⟨⟨(z1.mono (by decide)).trans (q4.1.mono (by decide)), fun z => (z1.mono (by decide)).trans ((q4.2 (q6.trans z)).mono (by decide))⟩, q5, rfl⟩
    split <;> rfl
theorem noteLock_ok {k p : Nat} {c : List Nat} (hk : k < 256) (hN : 1000 ≤ N) (h : rRp F H T S w) (hn : n < H) (hp : p < 1354) (hb : bR S p c) (hok : bOK c) (h1 : 0 ≤ wN w n 1 ∧ wN w n 1 ≤ 41) (h2 : 0 ≤ wN w n 2 ∧ wN w n 2 < 16) (hc : 0 ≤ wN w n 12 ∧ wN w n 12 ≤ 1000) (h15 : 0 ≤ wN w n 15 ∧ wN w n 15 ≤ 100) : wp (o_noteLock N S (nI n) (nI k) (nI p)) (f_noteLock N S (nI n) (nI k) (nI p)) (fun z => nfr noL S z ∧ rRp F H T z.2 (aOwn w n (ownT w n k ((wN w n 2).toNat :: c))).2 ∧ z.1 = nI (if (aOwn w n (ownT w n k ((wN w n 2).toNat :: c))).1 then 1 else 0)) := by
  have cb := h.1.1.b
  have e45 : S.2.1 45 n = nI (wN w n 2).toNat := by
    have := h.num hn 2 (by decide) (by decide)
    rw [← Int.toNat_of_nonneg h2.1, iI_n] at this
    exact this
  show wp (O_noteLock_0 N (nI n) (nI k) (nI p) S) (F_noteLock_0 N (nI n) (nI k) (nI p) S) _
  unfold O_noteLock_0 F_noteLock_0
  refine wp_call (openOwn_ok hk (by omega) h hn h1 h15) (fun q1 => ?_)
  generalize f_openOwn N S (nI n) (nI k) = S1 at q1 ⊢
  unfold O_noteLock_6 F_noteLock_6
  rw [n_clamp (by omega), q1.1.a 45 (by decide), e45]
  refine wp_and ((n_in (by omega)).2 (by omega)) (wp_call (noteN_ok (by omega) q1.2 (by simp [ownT, ntH])) (fun q2 => ?_))
  generalize f_noteByte N S1 (nI (wN w n 2).toNat) = S2 at q2 ⊢
  have f2 := q1.1.trans q2.1
  unfold O_noteLock_16 F_noteLock_16
  have hb2 := hb.fr f2 (by decide) (by decide) (by decide)
  refine wp_call (noteBlock_ok hp q2.2 hb2.1 hb2.2.1 hok.2.2 hok.2.1 (by have := hok.2.1; simp [ownT, ntH]; omega) hN) (fun q3 => ?_)
  generalize f_noteBlock N S2 (nI p) = S3 at q3 ⊢
  have f3 := f2.trans q3.1
  have tb : tB S3 (ownT w n k ((wN w n 2).toNat :: c)) := by
    have := q3.2
    unfold ownT at this ⊢
    rw [List.append_nil, List.append_assoc] at this
    exact this
  unfold O_noteLock_21 F_noteLock_21
  refine wp_call (closeOwn_ok hN (h.sf (sf71 f3)) hn tb (by simp [ownT, ntH]) hc h15) (fun q4 => ?_)
  obtain ⟨q5, q6, q7⟩ := q4
  generalize f_closeOwn N S3 (nI n) = y at q5 q6 q7 ⊢
  unfold O_noteLock_26 F_noteLock_26
  rw [q7]
  refine wp_fin ?_ ⟨⟨(f3.mono (by decide)).trans (q5.1.mono (by decide)), fun z => (f3.mono (by decide)).trans ((q5.2 (q7.trans z)).mono (by decide))⟩, q6, rfl⟩
  split <;> rfl
/-- the text of a CHAIN note -/
def chT (w : Wd) (n : Nat) (c : List Nat) : List Nat := ntH 1 (wN w n 1).toNat 0 ++ c
theorem noteChain_ok {p : Nat} {c : List Nat} (hN : 1000 ≤ N) (h : rRp F H T S w) (hn : n < H) (hp : p < 1354) (hb : bR S p c) (hok : bOK c) (h1 : 1 ≤ wN w n 1 ∧ wN w n 1 ≤ 40) (hc : 0 ≤ wN w n 12 ∧ wN w n 12 ≤ 1000) : wp (o_noteChain N S (nI n) (nI p)) (f_noteChain N S (nI n) (nI p)) (fun z => nfr noL S z ∧ rRp F H T z.2 (aNote w n (chT w n c) (2 * (wN w n 1).toNat - 2)).2 ∧ z.1 = nI (if (aNote w n (chT w n c) (2 * (wN w n 1).toNat - 2)).1 then 1 else 0)) := by
  have cb := h.1.1.b
  have e44 : S.2.1 44 n = nI (wN w n 1).toNat := by
    have := h.num hn 1 (by decide) (by decide)
    rw [← Int.toNat_of_nonneg (by omega : 0 ≤ wN w n 1), iI_n] at this
    exact this
  show wp (O_noteChain_0 N (nI n) (nI p) S) (F_noteChain_0 N (nI n) (nI p) S) _
  unfold O_noteChain_0 F_noteChain_0
  rw [n_clamp (by omega), e44]
  refine wp_and ((n_in (by omega)).2 (by omega)) (wp_call (openNote_ok (k := 1) (q := 0) (by omega) (by omega) (by omega) (by omega)) (fun q1 => ?_))
  generalize f_openNote N S (nI 1) (nI (wN w n 1).toNat) (nI 0) = S1 at q1 ⊢
  unfold O_noteChain_12 F_noteChain_12
  have hb1 := hb.fr q1.1 (by decide) (by decide) (by decide)
  refine wp_call (noteBlock_ok hp q1.2 hb1.1 hb1.2.1 hok.2.2 hok.2.1 (by have := hok.2.1; simp [ntH]; omega) hN) (fun q3 => ?_)
  generalize f_noteBlock N S1 (nI p) = S3 at q3 ⊢
  have f3 := q1.1.trans q3.1
  unfold O_noteChain_17 F_noteChain_17
  rw [n_clamp (by omega), f3.a 44 (by decide), e44, n_mul, n_sub (by omega)]
  refine wp_and ((n_in (by omega)).2 (by omega)) (wp_call (closeNote_ok (t := chT w n c) hN (h.sf (sf71 f3)) hn q3.2 (by simp [chT, ntH]) (by omega) hc) (fun q4 => ?_))
  obtain ⟨q5, q6, q7⟩ := q4
  generalize f_closeNote N S3 (nI n) (nI (2 * (wN w n 1).toNat - 2)) = y at q5 q6 q7 ⊢
  unfold O_noteChain_32 F_noteChain_32
  rw [q7]
  refine wp_fin ?_ ⟨⟨(f3.mono (by decide)).trans (q5.1.mono (by decide)), fun z => (f3.mono (by decide)).trans ((q5.2 (q7.trans z)).mono (by decide))⟩, q6, rfl⟩
  split <;> rfl
end
end
